/** Promise 6, scale: its boundary cases. */
public final class Promise06BoundaryTest {
    private static final long P = Desks.P;

    public static void main(String[] args) {
        Cases.runAll(Promise06BoundaryTest.class);
    }

    private static void refuses(int s) {
        Desks.refused("scale(" + s + ", 2, 3)", desk -> desk.scale(s, 2, 3));
    }

    private static void scales(long share, long a, long b, long due) {
        SplitDesk desk = Desks.laid(3, 0, share);
        Check.due("scale(3, " + a + ", " + b + ")", () -> desk.scale(3, a, b), true);
        Check.due(share + " times " + a + " and " + b + " more", () -> desk.share(3, 1), due);
    }

    static void firstSplit() {
        SplitDesk desk = Desks.laid(0, 0, 4L);
        Check.due("scale(0, 2, 3)", () -> desk.scale(0, 2, 3), true);
        Desks.shares("scaled", desk, 0, 11L);
    }

    static void lastSplit() {
        SplitDesk desk = Desks.laid(7, 0, 4L);
        Check.due("scale(7, 2, 3)", () -> desk.scale(7, 2, 3), true);
        Desks.shares("scaled", desk, 7, 11L);
    }

    static void splitBelow0IsRefused() {
        refuses(-1);
        refuses(Desks.LEAST);
    }

    static void splitAbove7IsRefused() {
        refuses(8);
        refuses(Desks.MOST);
    }

    /** There is such a split: it has nothing to be scaled. */
    static void splitOfNoShares() {
        Desks.changesNothing("scale(4, 2, 3)", Desks::busy, desk -> desk.scale(4, 2, 3), true);
    }

    /** Split 3 has lost all. */
    static void allLost() {
        Desks.changesNothing("scale(3, 2, 3)", Desks::busy, desk -> desk.scale(3, 2, 3), true);
    }

    static void lostStaysLost() {
        SplitDesk desk = Desks.laid(3, 1, 4L, null, 5L);
        Check.due("scale(3, 2, 3)", () -> desk.scale(3, 2, 3), true);
        Desks.shape("scaled", desk, 3, 1, 3, 2);
        Desks.shares("scaled", desk, 3, 11L, null, 13L);
    }

    static void all16Places() {
        SplitDesk desk = Desks.laid(3, 0, Desks.allThe(4L, 16));
        Check.due("scale(3, 2, 3)", () -> desk.scale(3, 2, 3), true);
        Desks.shares("scaled", desk, 3, Desks.allThe(11L, 16));
    }

    static void degreeAndPlacesStay() {
        SplitDesk desk = Desks.dealt(3, 8, 16, 5, 5);
        desk.scale(3, 0, 0);
        Desks.shape("scaled by 0", desk, 3, 8, 16, 16);
        Desks.shares("scaled by 0", desk, 3, Desks.allThe(0L, 16));
    }

    static void by0LeavesWhatIsMore() {
        scales(9, 0, 0, 0);
        scales(9, 0, 7, 7);
    }

    static void by1And0MoreStays() {
        scales(0, 1, 0, 0);
        scales(P - 1, 1, 0, P - 1);
    }

    static void byPIs0() {
        scales(9, P, 7, 7);
        scales(9, -P, 7, 7);
    }

    static void byBeyondP() {
        scales(9, P + 1, 0, 9);
        scales(9, Long.MAX_VALUE, 0, 27);
    }

    static void byBelow0() {
        scales(9, -1, 0, P - 9);
        scales(9, Long.MIN_VALUE, 0, P - 36);
    }

    static void morePIs0() {
        scales(9, 2, P, 18);
        scales(9, 2, -P, 18);
    }

    static void moreBeyondP() {
        scales(9, 2, P + 1, 19);
        scales(9, 2, Long.MAX_VALUE, 21);
    }

    static void moreBelow0() {
        scales(9, 2, -1, 17);
        scales(9, 2, -19, P - 1);
        scales(9, 2, Long.MIN_VALUE, 14);
    }

    static void justBelowAtAndAboveP() {
        scales(1, P - 2, 1, P - 1);
        scales(1, P - 1, 1, 0);
        scales(1, P - 1, 2, 1);
        scales(P - 1, P - 1, P - 1, 0);
        scales(P - 1, 2, P - 1, P - 3);
    }

    static void otherSplitsStay() {
        SplitDesk desk = Desks.busy();
        desk.deal(5, 0, 3, 4, 4);
        String before = Desks.seen(desk);
        desk.scale(5, 2, 0);
        desk.scale(5, 1L << 60, 0);
        Check.same("doubled and halved", Desks.seen(desk), before);
    }

    static void whatWasFoundStays() {
        SplitDesk desk = Desks.busy();
        desk.scale(2, 2, 3);
        Desks.parts("scaled", desk, Desks.drawnParts(74, 1, 75));
        Desks.wrongPlaces("scaled", desk, "3 7");
    }
}
