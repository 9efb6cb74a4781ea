/** Promise 10, part: its boundary cases. */
public final class Promise10BoundaryTest {
    private static final long P = Desks.P;
    private static final int[] NO_PARTS = {-1, 9, 16, Desks.LEAST, Desks.MOST};

    public static void main(String[] args) {
        Cases.runAll(Promise10BoundaryTest.class);
    }

    private static void throwsForAll(String when, SplitDesk desk) {
        for (int i = -1; i <= 9; i++) {
            int k = i;
            Check.due(when + ": part(" + k + ")", () -> desk.part(k), Desks.NO_ELEMENT);
        }
    }

    private static SplitDesk found(int t) {
        SplitDesk desk = Desks.dealt(0, t, 9, 5, 6);
        Check.due("find(0, 0)", () -> desk.find(0, 0), 0);
        return desk;
    }

    static void noneFoundInANewObject() {
        throwsForAll("new", new SplitDesk());
    }

    static void noneFoundBehindADeal() {
        throwsForAll("dealt", Desks.dealt(0, 8, 9, 5, 5));
    }

    static void noneFoundBehindARefusedFind() {
        SplitDesk desk = Desks.laid(0, 0, 1L, 2L);
        Check.due("find(0, 0)", () -> desk.find(0, 0), Desks.STATE);
        throwsForAll("no such curve", desk);
        Check.due("find(0, 1)", () -> desk.find(0, 1), Desks.ARGUMENT);
        throwsForAll("too few", desk);
    }

    static void k0IsTheNumber() {
        Check.due("part(0)", () -> found(0).part(0), 5);
        Check.due("part(0)", () -> found(8).part(0), 5);
    }

    static void k8() {
        Check.due("part(8)", () -> found(8).part(8), Desks.drawnParts(5, 8, 6)[8]);
        Check.due("part(8)", () -> found(7).part(8), 0);
    }

    static void kBelow0() {
        for (int t : new int[] {0, 8}) {
            SplitDesk desk = found(t);
            Check.due("part(-1)", () -> desk.part(-1), Desks.NO_ELEMENT);
            Check.due("part of the least int", () -> desk.part(Desks.LEAST), Desks.NO_ELEMENT);
        }
    }

    static void k9() {
        for (int t : new int[] {0, 8}) {
            SplitDesk desk = found(t);
            Check.due("part(9)", () -> desk.part(9), Desks.NO_ELEMENT);
            Check.due("part of the greatest int", () -> desk.part(Desks.MOST), Desks.NO_ELEMENT);
        }
    }

    static void kOfItsDegreeAndOneAbove() {
        for (int t = 0; t <= 7; t++) {
            SplitDesk desk = found(t);
            int degree = t;
            Check.due("part(" + degree + ")", () -> desk.part(degree), Desks.drawnParts(5, t, 6)[t]);
            Check.due("part above the degree " + degree, () -> desk.part(degree + 1), 0);
        }
    }

    static void allAboveItsDegreeAre0() {
        for (int t = 0; t <= 8; t++) {
            Desks.parts("degree " + t, found(t), Desks.drawnParts(5, t, 6));
        }
    }

    static void lowerDegreeFoundBehindAHigherOne() {
        SplitDesk desk = found(8);
        Desks.lay(desk, 1, 1, 7L, 9L);
        desk.find(1, 0);
        Desks.parts("degree 1 behind 8", desk, 5, 2);
        Desks.lay(desk, 2, 0, 6L, 6L, 8L);
        desk.find(2, 1);
        Desks.parts("degree 0 behind 1", desk, 6);
    }

    static void curveOfALowerDegreeThanItsSplit() {
        SplitDesk desk = Desks.laid(0, 4, 7L, 9L, 11L, 13L, 15L);
        desk.find(0, 0);
        Desks.parts("a line of degree 4", desk, 5, 2);
    }

    static void partsOf0AndPLess1() {
        SplitDesk desk = Desks.laid(0, 1, P - 1, P - 2, P - 3);
        desk.find(0, 0);
        Desks.parts("0 - x", desk, 0, P - 1);
    }

    static void refusedPartLeavesWhatWasFound() {
        for (int k : NO_PARTS) {
            Desks.changesNothing("part(" + k + ")", Desks::busy, desk -> desk.part(k), Desks.NO_ELEMENT);
        }
    }

    static void splitThatChangedSince() {
        SplitDesk desk = found(2);
        desk.deal(0, 8, 9, 1, 1);
        Desks.parts("dealt anew", desk, Desks.drawnParts(5, 2, 6));
        Desks.loseAll(desk, 0);
        Check.due("find(0, 0)", () -> desk.find(0, 0), Desks.ARGUMENT);
        Desks.parts("behind a refused find", desk, Desks.drawnParts(5, 2, 6));
    }
}
