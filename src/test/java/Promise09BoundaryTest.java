/** Promise 9, at: its boundary cases. */
public final class Promise09BoundaryTest {
    private static final long P = Desks.P;

    public static void main(String[] args) {
        Cases.runAll(Promise09BoundaryTest.class);
    }

    private static void throwsAt(String when, SplitDesk desk) {
        for (long x : new long[] {0, 1, -1, P, Long.MIN_VALUE, Long.MAX_VALUE}) {
            Check.due(when + ": at(" + x + ")", () -> desk.at(x), Desks.NO_ELEMENT);
        }
    }

    /** 3 + 2 x + x^2. */
    private static SplitDesk foundSquares() {
        SplitDesk desk = Desks.laid(0, 2, 6L, 11L, 18L, 27L);
        Check.due("find(0, 0)", () -> desk.find(0, 0), 0);
        return desk;
    }

    private static void answers(long x, long due) {
        SplitDesk desk = foundSquares();
        Check.due("at(" + x + ")", () -> desk.at(x), due);
    }

    static void noneFoundInANewObject() {
        throwsAt("new", new SplitDesk());
    }

    static void noneFoundBehindADeal() {
        throwsAt("dealt", Desks.dealt(0, 0, 1, 5, 5));
    }

    static void noneFoundBehindARefusedFind() {
        SplitDesk desk = Desks.laid(0, 0, 1L, 2L);
        Check.due("find(0, 0)", () -> desk.find(0, 0), Desks.STATE);
        throwsAt("no such curve", desk);
        Check.due("find(0, 1)", () -> desk.find(0, 1), Desks.ARGUMENT);
        throwsAt("too few", desk);
        Check.due("find(8, 0)", () -> desk.find(8, 0), Desks.ARGUMENT);
        throwsAt("no such split", desk);
    }

    static void noneFoundBehindARefusedMend() {
        SplitDesk desk = Desks.dealt(0, 0, 1, 5, 5);
        desk.mend();
        throwsAt("mended", desk);
    }

    static void refusedAtChangesNothing() {
        Desks.changesNothing("at(0)", () -> Desks.dealt(0, 2, 5, 6, 6), desk -> desk.at(0), Desks.NO_ELEMENT);
    }

    static void x0IsTheNumber() {
        answers(0, 3);
    }

    static void xOfAPlaceAndBeyond() {
        answers(1, 6);
        answers(4, 27);
        answers(5, 38);
        answers(16, 291);
        answers(17, 326);
    }

    static void xPLess1() {
        answers(P - 1, 2);
    }

    static void xPIs0() {
        answers(P, 3);
        answers(-P, 3);
        answers(4 * P, 3);
    }

    static void xBeyondP() {
        answers(P + 1, 6);
        answers(Long.MAX_VALUE, 18);
    }

    static void xBelow0() {
        answers(-1, 2);
        answers(-2, 3);
        answers(Long.MIN_VALUE, 11);
    }

    static void xWhoseSquareIsBeyondALong() {
        answers(1L << 60, 3 + 1 + (1L << 59));
        answers(1L << 32, 3 + (1L << 33) + 8);
    }

    static void curveOfDegree0() {
        SplitDesk desk = Desks.laid(0, 0, 6L);
        desk.find(0, 0);
        for (long x : new long[] {0, 1, -1, P, Long.MIN_VALUE, Long.MAX_VALUE}) {
            Check.due("at(" + x + ")", () -> desk.at(x), 6);
        }
    }

    static void curveOfDegree8() {
        SplitDesk desk = Desks.dealt(0, 8, 9, -3, -4);
        desk.find(0, 0);
        for (long x : new long[] {0, 1, 9, 10, 16, 17, -1, P - 1, P, P + 1, Long.MIN_VALUE, Long.MAX_VALUE}) {
            Check.due("at(" + x + ")", () -> desk.at(x),
                Model.value(Model.drawn(Model.big(-3), 8, -4), Model.big(x)));
        }
    }

    static void curveOfNothingBut0() {
        SplitDesk desk = Desks.laid(0, 3, 0L, 0L, 0L, 0L);
        desk.find(0, 0);
        Check.due("at(0)", () -> desk.at(0), 0);
        Check.due("at(-1)", () -> desk.at(-1), 0);
    }

    static void whatWasFoundLast() {
        SplitDesk desk = foundSquares();
        Desks.lay(desk, 1, 0, 44L);
        Check.due("before the second find", () -> desk.at(0), 3);
        desk.find(1, 0);
        Check.due("behind the second find", () -> desk.at(0), 44);
    }

    static void splitThatIsLostSince() {
        SplitDesk desk = foundSquares();
        Desks.loseAll(desk, 0);
        Check.due("all lost", () -> desk.at(0), 3);
        desk.join(0, 0, 7, 0);
        Check.due("no places", () -> desk.at(0), 3);
        desk.deal(0, 0, 1, 8, 8);
        Check.due("dealt anew", () -> desk.at(0), 3);
        desk.mend();
        Check.due("mended", () -> desk.at(0), 3);
    }

    static void wrongShareIsNotWhatItAnswers() {
        SplitDesk desk = Desks.laid(0, 0, 4L, 4L, 9L);
        desk.find(0, 1);
        Check.due("at(3)", () -> desk.at(3), 4);
    }
}
