/** Promise 12, mend: its boundary cases. */
public final class Promise12BoundaryTest {
    public static void main(String[] args) {
        Cases.runAll(Promise12BoundaryTest.class);
    }

    private static void mends(SplitDesk desk) {
        Check.due("mend()", () -> desk.mend(), true);
    }

    /** 3 + 2 x, found for split 0. */
    private static SplitDesk foundLine() {
        SplitDesk desk = Desks.laid(0, 1, 5L, 7L, 9L, 11L);
        Check.due("find(0, 0)", () -> desk.find(0, 0), 0);
        return desk;
    }

    private static Long[] line(int n) {
        Long[] values = new Long[n];
        for (int i = 0; i < n; i++) {
            values[i] = 5L + 2 * i;
        }
        return values;
    }

    private static void refuses(String when, SplitDesk desk) {
        String before = Desks.seen(desk);
        Check.due(when + ": mend()", () -> desk.mend(), false);
        Check.same(when + ": what is seen behind it", Desks.seen(desk), before);
    }

    static void noneFoundInANewObject() {
        refuses("new", new SplitDesk());
    }

    static void noneFoundBehindADeal() {
        SplitDesk desk = Desks.dealt(0, 1, 5, 6, 6);
        desk.lose(0, 2);
        refuses("dealt", desk);
    }

    static void noneFoundBehindARefusedFind() {
        SplitDesk desk = Desks.laid(0, 0, 1L, 2L, null);
        Check.due("find(0, 0)", () -> desk.find(0, 0), Desks.STATE);
        refuses("no such curve", desk);
        Check.due("find(0, 1)", () -> desk.find(0, 1), Desks.ARGUMENT);
        refuses("too few", desk);
        Check.due("find(-1, 0)", () -> desk.find(-1, 0), Desks.ARGUMENT);
        refuses("no such split", desk);
    }

    static void firstSplit() {
        SplitDesk desk = Desks.laid(0, 0, 4L, 4L, 9L);
        desk.find(0, 1);
        mends(desk);
        Desks.shares("mended", desk, 0, 4L, 4L, 4L);
    }

    static void lastSplit() {
        SplitDesk desk = Desks.laid(7, 0, 4L, 4L, 9L);
        desk.find(7, 1);
        mends(desk);
        Desks.shares("mended", desk, 7, 4L, 4L, 4L);
    }

    static void nothingToMend() {
        SplitDesk desk = foundLine();
        mends(desk);
        Desks.shape("as it was", desk, 0, 1, 4, 4);
        Desks.shares("as it was", desk, 0, line(4));
    }

    static void wrongOnesBecomeRight() {
        SplitDesk desk = Desks.laid(0, 1, 5L, 1L, 9L, 11L, 13L, 2L);
        Check.due("find(0, 2)", () -> desk.find(0, 2), 2);
        mends(desk);
        Desks.shares("mended", desk, 0, line(6));
    }

    static void lostOnesAreThere() {
        SplitDesk desk = Desks.laid(0, 1, null, 7L, 9L, null);
        Check.due("find(0, 0)", () -> desk.find(0, 0), 0);
        mends(desk);
        Desks.shape("mended", desk, 0, 1, 4, 4);
        Desks.shares("mended", desk, 0, line(4));
    }

    static void allLostSince() {
        SplitDesk desk = foundLine();
        Desks.loseAll(desk, 0);
        mends(desk);
        Desks.shape("mended", desk, 0, 1, 4, 4);
        Desks.shares("mended", desk, 0, line(4));
    }

    static void wrongSince() {
        SplitDesk desk = foundLine();
        for (int place = 1; place <= 4; place++) {
            desk.put(0, place, 1);
        }
        mends(desk);
        Desks.shares("mended", desk, 0, line(4));
    }

    static void morePlacesNow() {
        SplitDesk desk = foundLine();
        desk.deal(0, 1, 5, 8, 8);
        mends(desk);
        Desks.shape("five places", desk, 0, 1, 5, 5);
        Desks.shares("five places", desk, 0, line(5));
    }

    static void places16Now() {
        SplitDesk desk = foundLine();
        desk.deal(0, 1, 16, 8, 8);
        desk.lose(0, 16);
        mends(desk);
        Desks.shape("16 places", desk, 0, 1, 16, 16);
        Desks.shares("16 places", desk, 0, line(16));
    }

    static void fewerPlacesNow() {
        SplitDesk desk = foundLine();
        desk.deal(0, 0, 3, 8, 8);
        mends(desk);
        Desks.shape("three places", desk, 0, 0, 3, 3);
        Desks.shares("three places", desk, 0, line(3));
    }

    static void onePlaceNow() {
        SplitDesk desk = foundLine();
        desk.deal(0, 0, 1, 8, 8);
        mends(desk);
        Desks.shape("one place", desk, 0, 0, 1, 1);
        Desks.shares("one place", desk, 0, 5L);
    }

    static void noPlacesNow() {
        SplitDesk desk = foundLine();
        desk.join(0, 0, 7, 0);
        mends(desk);
        Desks.shape("no places", desk, 0, 1, 0, 0);
        Desks.shares("no places", desk, 0);
    }

    /** A curve of degree 1 in a split of degree 0, which then has no curve of its own. */
    static void lowerDegreeNowStays() {
        SplitDesk desk = foundLine();
        desk.deal(0, 0, 4, 8, 8);
        mends(desk);
        Desks.shape("degree 0", desk, 0, 0, 4, 4);
        Check.due("find(0, 0)", () -> desk.find(0, 0), Desks.STATE);
        Check.due("what was found stays", () -> desk.at(0), 3);
    }

    static void higherDegreeNowStays() {
        SplitDesk desk = foundLine();
        desk.deal(0, 8, 9, 8, 8);
        mends(desk);
        Desks.shape("degree 8", desk, 0, 8, 9, 9);
        Desks.shares("degree 8", desk, 0, line(9));
    }

    static void twice() {
        SplitDesk desk = foundLine();
        mends(desk);
        desk.lose(0, 1);
        desk.put(0, 2, 2);
        mends(desk);
        Desks.shares("mended twice", desk, 0, line(4));
    }

    static void onlyTheSplitThatWasFoundLast() {
        SplitDesk desk = foundLine();
        Desks.lay(desk, 1, 0, 4L, 4L, 9L);
        desk.find(1, 1);
        desk.lose(0, 1);
        mends(desk);
        Desks.shares("the last", desk, 1, 4L, 4L, 4L);
        Desks.shares("the one before", desk, 0, null, 7L, 9L, 11L);
    }

    static void refusedFindDoesNotCount() {
        SplitDesk desk = foundLine();
        Desks.lay(desk, 1, 0, 4L, 5L, 6L, null);
        Check.due("find(1, 1)", () -> desk.find(1, 1), Desks.STATE);
        Check.due("find(1, 2)", () -> desk.find(1, 2), Desks.ARGUMENT);
        Check.due("find(8, 0)", () -> desk.find(8, 0), Desks.ARGUMENT);
        desk.lose(0, 1);
        mends(desk);
        Desks.shares("the found one", desk, 0, line(4));
        Desks.shares("the refused one", desk, 1, 4L, 5L, 6L, null);
    }

    static void whatWasFoundStays() {
        SplitDesk desk = Desks.laid(0, 1, 5L, 1L, 9L, 11L);
        desk.find(0, 1);
        mends(desk);
        Desks.parts("mended", desk, 3, 2);
        Desks.wrongPlaces("mended", desk, "2");
    }
}
