/** Promise 3, put: its boundary cases. */
public final class Promise03BoundaryTest {
    private static final long P = Desks.P;

    public static void main(String[] args) {
        Cases.runAll(Promise03BoundaryTest.class);
    }

    private static void refuses(int s, int place) {
        Desks.refused("put(" + s + ", " + place + ", 8)", desk -> desk.put(s, place, 8));
    }

    static void firstSplit() {
        SplitDesk desk = Desks.laid(0, 0, 1L, 2L);
        Check.due("put(0, 1, 8)", () -> desk.put(0, 1, 8), true);
        Desks.shares("put", desk, 0, 8L, 2L);
    }

    static void lastSplit() {
        SplitDesk desk = Desks.laid(7, 0, 1L, 2L);
        Check.due("put(7, 1, 8)", () -> desk.put(7, 1, 8), true);
        Desks.shares("put", desk, 7, 8L, 2L);
    }

    static void splitBelow0IsRefused() {
        refuses(-1, 1);
        refuses(Desks.LEAST, 1);
    }

    static void splitAbove7IsRefused() {
        refuses(8, 1);
        refuses(Desks.MOST, 1);
    }

    static void place1() {
        SplitDesk desk = Desks.laid(3, 1, 1L, 2L, 3L);
        Check.due("put(3, 1, 8)", () -> desk.put(3, 1, 8), true);
        Desks.shares("put", desk, 3, 8L, 2L, 3L);
    }

    static void place0IsRefused() {
        refuses(1, 0);
    }

    static void placeBelow0IsRefused() {
        refuses(1, -1);
        refuses(1, Desks.LEAST);
    }

    static void lastPlace() {
        SplitDesk desk = Desks.laid(3, 1, 1L, 2L, 3L);
        Check.due("put(3, 3, 8)", () -> desk.put(3, 3, 8), true);
        Desks.shares("put", desk, 3, 1L, 2L, 8L);
    }

    /** Split 1 has 6 places, split 0 has 4. */
    static void placeBehindTheLastIsRefused() {
        refuses(1, 7);
        refuses(0, 5);
        refuses(0, 16);
    }

    static void place16() {
        SplitDesk desk = Desks.laid(3, 0, Desks.allThe(4L, 16));
        Check.due("put(3, 16, 8)", () -> desk.put(3, 16, 8), true);
        Check.due("share(3, 16)", () -> desk.share(3, 16), 8);
        Check.due("share(3, 15)", () -> desk.share(3, 15), 4);
    }

    /** Split 2 has 16 places. */
    static void place17IsRefused() {
        refuses(2, 17);
        refuses(2, Desks.MOST);
    }

    /** Split 4 was never dealt. */
    static void splitOfNoSharesIsRefused() {
        refuses(4, 1);
        refuses(4, 0);
        refuses(4, 16);
    }

    static void lostShareIsThere() {
        SplitDesk desk = Desks.laid(3, 0, 1L, null, 3L);
        Check.due("put(3, 2, 8)", () -> desk.put(3, 2, 8), true);
        Desks.shape("put", desk, 3, 0, 3, 3);
        Desks.shares("put", desk, 3, 1L, 8L, 3L);
    }

    static void oneOfSharesThatAreAllLost() {
        SplitDesk desk = Desks.laid(3, 2, null, null, null);
        Check.due("put(3, 2, 0)", () -> desk.put(3, 2, 0), true);
        Desks.shape("put", desk, 3, 2, 3, 1);
        Desks.shares("put", desk, 3, null, 0L, null);
    }

    static void degreeAndPlacesStay() {
        SplitDesk desk = Desks.dealt(3, 4, 9, 5, 5);
        desk.put(3, 9, 1);
        Desks.shape("put", desk, 3, 4, 9, 9);
    }

    static void placeThatIsNoLongerOneIsRefused() {
        SplitDesk desk = Desks.laid(3, 0, 1L, 2L, 3L, 4L);
        Desks.lay(desk, 3, 0, 5L, 6L);
        Check.due("put(3, 3, 8)", () -> desk.put(3, 3, 8), false);
        Desks.shape("dealt smaller", desk, 3, 0, 2, 2);
        Desks.shares("dealt smaller", desk, 3, 5L, 6L);
        desk.join(3, 3, 4, 0);
        Check.due("put(3, 1, 8)", () -> desk.put(3, 1, 8), false);
        Desks.shape("no places", desk, 3, 0, 0, 0);
    }

    private static void puts(long v, long due) {
        SplitDesk desk = Desks.laid(3, 0, 5L);
        Check.due("put(3, 1, " + v + ")", () -> desk.put(3, 1, v), true);
        Check.due("share(3, 1)", () -> desk.share(3, 1), due);
    }

    static void number0() {
        puts(0, 0);
    }

    static void numberPLess1() {
        puts(P - 1, P - 1);
    }

    static void numberPIs0() {
        puts(P, 0);
    }

    static void numberBeyondP() {
        puts(P + 1, 1);
        puts(Long.MAX_VALUE, 3);
    }

    static void numberBelow0() {
        puts(-1, P - 1);
        puts(-P, 0);
        puts(Long.MIN_VALUE, P - 4);
    }

    static void whatIsThereAlready() {
        SplitDesk desk = Desks.laid(3, 0, 5L, 6L);
        Check.due("put(3, 1, 5)", () -> desk.put(3, 1, 5), true);
        Desks.shares("put as it was", desk, 3, 5L, 6L);
    }
}
