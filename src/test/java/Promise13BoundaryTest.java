/** Promise 13, share: its boundary cases. */
public final class Promise13BoundaryTest {
    private static final long P = Desks.P;

    public static void main(String[] args) {
        Cases.runAll(Promise13BoundaryTest.class);
    }

    private static void answers(SplitDesk desk, int s, int place, Object due) {
        Check.due("share(" + s + ", " + place + ")", () -> desk.share(s, place), due);
    }

    private static void refuses(int s, int place) {
        Desks.changesNothing("share(" + s + ", " + place + ")", Desks::busy, desk -> desk.share(s, place),
            Desks.NO_ELEMENT);
    }

    static void firstSplit() {
        answers(Desks.laid(0, 0, 4L), 0, 1, 4);
    }

    static void lastSplit() {
        answers(Desks.laid(7, 0, 4L), 7, 1, 4);
    }

    static void splitBelow0() {
        refuses(-1, 1);
        refuses(Desks.LEAST, 1);
    }

    static void splitAbove7() {
        refuses(8, 1);
        refuses(Desks.MOST, 1);
    }

    static void place1() {
        answers(Desks.laid(3, 0, 4L, 5L, 6L), 3, 1, 4);
    }

    static void place0() {
        refuses(1, 0);
    }

    static void placeBelow0() {
        refuses(1, -1);
        refuses(1, Desks.LEAST);
    }

    static void lastPlace() {
        answers(Desks.laid(3, 0, 4L, 5L, 6L), 3, 3, 6);
    }

    /** Split 1 has 6 places, split 0 has 4. */
    static void placeBehindTheLast() {
        refuses(1, 7);
        refuses(0, 5);
        refuses(0, 16);
    }

    static void place16() {
        SplitDesk desk = Desks.laid(3, 0, Desks.allThe(4L, 16));
        desk.put(3, 16, 9);
        answers(desk, 3, 16, 9);
    }

    /** Split 2 has 16 places. */
    static void place17() {
        refuses(2, 17);
        refuses(2, Desks.MOST);
    }

    /** Split 0 lost its share at place 2. */
    static void lost() {
        refuses(0, 2);
    }

    /** Split 3 has lost all its 6. */
    static void allLost() {
        for (int place = 0; place <= 7; place++) {
            refuses(3, place);
        }
    }

    /** Split 4 was never dealt. */
    static void splitOfNoShares() {
        refuses(4, 0);
        refuses(4, 1);
        refuses(4, 16);
    }

    static void placeThatIsNoLongerOne() {
        SplitDesk desk = Desks.laid(3, 0, 4L, 5L, 6L);
        desk.deal(3, 0, 2, 8, 8);
        answers(desk, 3, 2, 8);
        answers(desk, 3, 3, Desks.NO_ELEMENT);
        desk.join(3, 3, 4, 0);
        answers(desk, 3, 1, Desks.NO_ELEMENT);
    }

    static void lostAndPutAgain() {
        SplitDesk desk = Desks.laid(3, 0, 4L, null);
        answers(desk, 3, 2, Desks.NO_ELEMENT);
        desk.put(3, 2, 7);
        answers(desk, 3, 2, 7);
        desk.lose(3, 2);
        answers(desk, 3, 2, Desks.NO_ELEMENT);
    }

    static void leastAndGreatestNumber() {
        SplitDesk desk = Desks.laid(3, 0, 0L, P - 1, P, -1L);
        Desks.shares("numbers", desk, 3, 0L, P - 1, 0L, P - 1);
    }
}
