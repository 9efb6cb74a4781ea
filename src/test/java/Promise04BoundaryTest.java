/** Promise 4, lose: its boundary cases. */
public final class Promise04BoundaryTest {
    public static void main(String[] args) {
        Cases.runAll(Promise04BoundaryTest.class);
    }

    private static void refuses(int s, int place) {
        Desks.refused("lose(" + s + ", " + place + ")", desk -> desk.lose(s, place));
    }

    static void firstSplit() {
        SplitDesk desk = Desks.laid(0, 0, 1L, 2L);
        Check.due("lose(0, 2)", () -> desk.lose(0, 2), true);
        Desks.shares("lost", desk, 0, 1L, null);
    }

    static void lastSplit() {
        SplitDesk desk = Desks.laid(7, 0, 1L, 2L);
        Check.due("lose(7, 2)", () -> desk.lose(7, 2), true);
        Desks.shares("lost", desk, 7, 1L, null);
    }

    static void splitBelow0IsRefused() {
        refuses(-1, 1);
        refuses(Desks.LEAST, 1);
    }

    static void splitAbove7IsRefused() {
        refuses(8, 1);
        refuses(Desks.MOST, 1);
    }

    static void place1() {
        SplitDesk desk = Desks.laid(3, 1, 1L, 2L, 3L);
        Check.due("lose(3, 1)", () -> desk.lose(3, 1), true);
        Desks.shares("lost", desk, 3, null, 2L, 3L);
        Desks.shape("lost", desk, 3, 1, 3, 2);
    }

    static void place0IsRefused() {
        refuses(1, 0);
    }

    static void placeBelow0IsRefused() {
        refuses(1, -1);
        refuses(1, Desks.LEAST);
    }

    static void lastPlace() {
        SplitDesk desk = Desks.laid(3, 1, 1L, 2L, 3L);
        Check.due("lose(3, 3)", () -> desk.lose(3, 3), true);
        Desks.shares("lost", desk, 3, 1L, 2L, null);
        Desks.shape("the places stay", desk, 3, 1, 3, 2);
    }

    /** Split 1 has 6 places, split 0 has 4. */
    static void placeBehindTheLastIsRefused() {
        refuses(1, 7);
        refuses(0, 5);
        refuses(0, 16);
    }

    static void place16() {
        SplitDesk desk = Desks.laid(3, 0, Desks.allThe(4L, 16));
        Check.due("lose(3, 16)", () -> desk.lose(3, 16), true);
        Check.due("share(3, 16)", () -> desk.share(3, 16), Desks.NO_ELEMENT);
        Check.due("share(3, 15)", () -> desk.share(3, 15), 4);
    }

    /** Split 2 has 16 places. */
    static void place17IsRefused() {
        refuses(2, 17);
        refuses(2, Desks.MOST);
    }

    /** Split 0 lost its share at place 2, split 3 all of them. */
    static void lostShareIsRefused() {
        refuses(0, 2);
        refuses(3, 1);
        refuses(3, 6);
    }

    static void twiceIsRefused() {
        SplitDesk desk = Desks.laid(3, 0, 1L, 2L);
        Check.due("lose(3, 1)", () -> desk.lose(3, 1), true);
        Check.due("lose(3, 1) again", () -> desk.lose(3, 1), false);
        Desks.shape("lost once", desk, 3, 0, 2, 1);
    }

    static void onceMoreBehindAPut() {
        SplitDesk desk = Desks.laid(3, 0, 1L, null);
        desk.put(3, 2, 9);
        Check.due("lose(3, 2)", () -> desk.lose(3, 2), true);
        Desks.shares("lost once more", desk, 3, 1L, null);
    }

    /** Split 4 was never dealt. */
    static void splitOfNoSharesIsRefused() {
        refuses(4, 0);
        refuses(4, 1);
        refuses(4, 16);
    }

    static void allOf16Places() {
        SplitDesk desk = Desks.dealt(3, 2, 16, 5, 5);
        for (int i = 1; i <= 16; i++) {
            int place = i;
            Check.due("lose(3, " + place + ")", () -> desk.lose(3, place), true);
            Desks.shape("lost up to " + place, desk, 3, 2, 16, 16 - place);
        }
        Desks.shares("all lost", desk, 3, Desks.allThe(null, 16));
    }

    static void placeThatIsNoLongerOneIsRefused() {
        SplitDesk desk = Desks.laid(3, 0, 1L, 2L, 3L, 4L);
        Desks.lay(desk, 3, 0, 5L, 6L);
        Check.due("lose(3, 3)", () -> desk.lose(3, 3), false);
        Desks.shape("dealt smaller", desk, 3, 0, 2, 2);
    }
}
