/** Promise 14, split: its boundary cases. */
public final class Promise14BoundaryTest {
    public static void main(String[] args) {
        Cases.runAll(Promise14BoundaryTest.class);
    }

    private static void answersNone(int s, int what) {
        Desks.changesNothing("split(" + s + ", " + what + ")", Desks::busy, desk -> desk.split(s, what),
            SplitDesk.NONE);
    }

    static void firstSplit() {
        Desks.shape("split 0", Desks.dealt(0, 2, 5, 6, 6), 0, 2, 5, 5);
    }

    static void lastSplit() {
        Desks.shape("split 7", Desks.dealt(7, 2, 5, 6, 6), 7, 2, 5, 5);
    }

    static void splitBelow0IsNone() {
        for (int what = -1; what <= 3; what++) {
            answersNone(-1, what);
            answersNone(Desks.LEAST, what);
        }
    }

    static void splitAbove7IsNone() {
        for (int what = -1; what <= 3; what++) {
            answersNone(8, what);
            answersNone(Desks.MOST, what);
        }
    }

    static void what0IsTheDegree() {
        SplitDesk desk = Desks.laid(3, 1, 4L, null, 6L, null);
        Check.due("split(3, 0)", () -> desk.split(3, 0), 1);
    }

    static void what1IsN() {
        SplitDesk desk = Desks.laid(3, 1, 4L, null, 6L, null);
        Check.due("split(3, 1)", () -> desk.split(3, 1), 4);
    }

    static void what2IsHowManyAreThere() {
        SplitDesk desk = Desks.laid(3, 1, 4L, null, 6L, null);
        Check.due("split(3, 2)", () -> desk.split(3, 2), 2);
    }

    static void whatBelow0IsNone() {
        answersNone(0, -1);
        answersNone(4, -1);
        answersNone(0, Desks.LEAST);
    }

    static void whatAbove2IsNone() {
        answersNone(0, 3);
        answersNone(4, 3);
        answersNone(0, Desks.MOST);
    }

    static void splitOfNoShares() {
        Desks.shape("never dealt", new SplitDesk(), 3, 0, 0, 0);
        SplitDesk desk = Desks.dealt(3, 5, 16, 6, 6);
        desk.join(3, 3, 4, 0);
        Desks.shape("joined with one of none", desk, 3, 5, 0, 0);
    }

    static void allItsPlaces() {
        Desks.shape("one", Desks.dealt(3, 0, 1, 6, 6), 3, 0, 1, 1);
        Desks.shape("16", Desks.dealt(3, 8, 16, 6, 6), 3, 8, 16, 16);
    }

    static void allLost() {
        SplitDesk desk = Desks.dealt(3, 8, 16, 6, 6);
        Desks.loseAll(desk, 3);
        Desks.shape("all of 16 lost", desk, 3, 8, 16, 0);
    }

    static void firstOrLastLost() {
        SplitDesk desk = Desks.dealt(3, 8, 16, 6, 6);
        desk.lose(3, 1);
        Desks.shape("the first lost", desk, 3, 8, 16, 15);
        desk.lose(3, 16);
        Desks.shape("the last lost, too", desk, 3, 8, 16, 14);
    }

    static void degree0And8() {
        Desks.shape("degree 0", Desks.dealt(3, 0, 9, 6, 6), 3, 0, 9, 9);
        Desks.shape("degree 8", Desks.dealt(3, 8, 9, 6, 6), 3, 8, 9, 9);
    }

    /** What was there at places that it no longer has does not count. */
    static void fewerPlacesThanBefore() {
        SplitDesk desk = Desks.dealt(3, 0, 16, 6, 6);
        desk.deal(3, 0, 2, 6, 6);
        Desks.shape("two places", desk, 3, 0, 2, 2);
    }
}
