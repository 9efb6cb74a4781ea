import java.math.BigInteger;

/** Promises 8 to 12: the curve that is found, and what is asked of it. */
public final class FoundTest {
    private static final long P = Desks.P;

    public static void main(String[] args) {
        promise8FindAnyShape();
        promise8FindLessThanTheDegree();
        promise8FindAnotherCurve();
        promise8FindRefused();
        promise8WhatWasFoundStays();
        promise9At();
        promise10Part();
        promise11Wrong();
        promise12Mend();
        promise12MendAsItIsNow();
        Check.end();
    }

    private static void parts(String when, SplitDesk desk, BigInteger[] c) {
        for (int i = 0; i <= 8; i++) {
            int k = i;
            Check.due(when + ": part(" + k + ")", () -> desk.part(k), k < c.length ? c[k] : BigInteger.ZERO);
        }
    }

    /** Every degree, every e and every number of shares that suffices; 0 .. e wrong ones, and then one too many. */
    private static void promise8FindAnyShape() {
        for (int t = 0; t <= 8; t++) {
            for (int e = 0; e <= 7; e++) {
                for (int n = t + 1 + 2 * e; n <= 16; n++) {
                    findWithWrongOnes(t, e, n);
                }
            }
        }
    }

    private static void findWithWrongOnes(int t, int e, int n) {
        SplitDesk desk = new SplitDesk();
        String when = "degree " + t + ", e " + e + ", n " + n;
        long seed = 1000L * t + 100 * e + n;
        BigInteger[] c = Model.drawn(Model.big(-seed), t, seed);
        desk.deal(0, t, n, -seed, seed);
        boolean[] wrong = new boolean[17];
        for (int count = 0; count <= e; count++) {
            int due = count;
            Check.due(when + ": find with " + due + " wrong", () -> desk.find(0, e), due);
            parts(when, desk, c);
            for (int i = 1; i <= 16; i++) {
                int place = i;
                Check.due(when + ": wrong(" + place + ")", () -> desk.wrong(place), wrong[place]);
            }
            int next = nextWrongPlace(count, n);
            wrong[next] = true;
            long value = desk.share(0, next);
            desk.put(0, next, value + 1 + count * count);
        }
        if (n > t + 1) {
            Model model = new Model();
            model.deal(0, t, n, 0, 0);
            for (int place = 1; place <= n; place++) {
                model.put(0, place, desk.share(0, place));
            }
            Check.due(when + ": find with one wrong too many", () -> desk.find(0, e),
                Check.outcome(() -> model.find(0, e)));
        }
    }

    /** Each place once: from both ends in turn. */
    private static int nextWrongPlace(int count, int n) {
        return count % 2 == 0 ? 1 + count / 2 : n - count / 2;
    }

    private static void promise8FindLessThanTheDegree() {
        SplitDesk desk = new SplitDesk();
        desk.deal(0, 5, 14, 1, 1);
        for (int place = 1; place <= 14; place++) {
            desk.put(0, place, 3 * place + 2);
        }
        desk.put(0, 4, 0);
        desk.put(0, 9, 0);
        Check.due("find a line of degree 5", () -> desk.find(0, 4), 2);
        parts("a line", desk, new BigInteger[] {BigInteger.TWO, BigInteger.valueOf(3)});
        for (int place = 1; place <= 14; place++) {
            desk.put(0, place, 0);
        }
        Check.due("find nothing but 0", () -> desk.find(0, 4), 0);
        parts("nothing but 0", desk, new BigInteger[0]);
    }

    /** When most shares tell another curve, it is that one. */
    private static void promise8FindAnotherCurve() {
        SplitDesk desk = new SplitDesk();
        desk.deal(0, 1, 6, 1, 1);
        for (int place = 1; place <= 6; place++) {
            desk.put(0, place, place <= 3 ? 10 + place : 20 + 5 * place);
        }
        Check.due("find with three on each of two lines", () -> desk.find(0, 2), Desks.STATE);
        desk.put(0, 3, 35);
        Check.due("find with four on the other line", () -> desk.find(0, 2), 2);
        Check.due("at(0)", () -> desk.at(0), 20);
        Check.due("find with at most one wrong", () -> desk.find(0, 1), Desks.STATE);
        Check.due("find with none wrong", () -> desk.find(0, 0), Desks.STATE);
        desk.lose(0, 1);
        Check.due("find without a wrong one", () -> desk.find(0, 1), 1);
        desk.lose(0, 2);
        Check.due("find without both wrong ones", () -> desk.find(0, 0), 0);
    }

    private static void promise8FindRefused() {
        SplitDesk desk = new SplitDesk();
        desk.deal(0, 0, 16, 3, 3);
        for (int e : new int[] {-1, 8, Integer.MIN_VALUE, Integer.MAX_VALUE, 1 << 30, 1 << 31}) {
            Check.due("find(0, " + e + ")", () -> desk.find(0, e), Desks.ARGUMENT);
        }
        for (int s : new int[] {-1, 8, Integer.MIN_VALUE, Integer.MAX_VALUE}) {
            Check.due("find(" + s + ", 0)", () -> desk.find(s, 0), Desks.ARGUMENT);
        }
        Check.due("nothing was found", () -> desk.at(0), Desks.NO_ELEMENT);
        for (int t = 0; t <= 8; t++) {
            for (int e = 0; e <= 7 && t + 1 + 2 * e <= 16; e++) {
                findWithJustEnough(t, e);
            }
        }
        desk.deal(2, 4, 5, 1, 1);
        desk.join(3, 2, 2, 2);
        Check.due("a product of degree 8 at 5 places", () -> desk.find(3, 0), Desks.ARGUMENT);
    }

    private static void findWithJustEnough(int t, int e) {
        SplitDesk desk = new SplitDesk();
        desk.deal(1, t, 16, t, e);
        for (int place = 1; desk.split(1, 2) > t + 1 + 2 * e; place++) {
            desk.lose(1, place);
        }
        Check.due("just enough shares of degree " + t + ": find(1, " + e + ")", () -> desk.find(1, e), 0);
        desk.lose(1, 16);
        Check.due("too few shares of degree " + t + ": find(1, " + e + ")", () -> desk.find(1, e), Desks.ARGUMENT);
    }

    private static void promise8WhatWasFoundStays() {
        SplitDesk desk = new SplitDesk();
        desk.deal(0, 1, 5, 42, 6);
        desk.put(0, 2, 0);
        desk.find(0, 1);
        desk.deal(1, 0, 3, 8, 8);
        desk.put(1, 1, 1);
        desk.put(1, 3, 2);
        desk.lose(0, 5);
        Check.due("no such curve", () -> desk.find(1, 1), Desks.STATE);
        Check.due("too few", () -> desk.find(1, 2), Desks.ARGUMENT);
        Check.due("no such split", () -> desk.find(8, 0), Desks.ARGUMENT);
        desk.deal(0, 2, 4, 7, 7);
        parts("what was found stays", desk, Model.drawn(BigInteger.valueOf(42), 1, 6));
        Check.due("stays: wrong(2)", () -> desk.wrong(2), true);
        Check.due("stays: wrong(1)", () -> desk.wrong(1), false);
        Check.due("stays: wrong(3)", () -> desk.wrong(3), false);
        Check.due("stays: mend", () -> desk.mend(), true);
        Check.due("stays: mended the first", () -> desk.share(0, 4),
            Model.value(Model.drawn(BigInteger.valueOf(42), 1, 6), Model.big(4)));
        Check.due("stays: not the second", () -> desk.share(1, 3), 2);
    }

    private static void promise9At() {
        SplitDesk desk = new SplitDesk();
        Check.due("at before find", () -> desk.at(5), Desks.NO_ELEMENT);
        desk.deal(4, 8, 9, -3, -4);
        Check.due("at behind a deal", () -> desk.at(5), Desks.NO_ELEMENT);
        desk.find(4, 0);
        BigInteger[] c = Model.drawn(Model.big(-3), 8, -4);
        long[] places = {0, 1, 16, 17, -1, P - 1, P, P + 2, -P, 1L << 60, Long.MIN_VALUE, Long.MAX_VALUE};
        for (long x : places) {
            Check.due("at(" + x + ")", () -> desk.at(x), Model.value(c, Model.big(x)));
        }
        desk.deal(5, 0, 1, 6, 0);
        desk.find(5, 0);
        Check.due("at of the curve found last", () -> desk.at(1000), 6);
    }

    private static void promise10Part() {
        SplitDesk desk = new SplitDesk();
        Check.due("part before find", () -> desk.part(0), Desks.NO_ELEMENT);
        desk.deal(0, 8, 16, P - 1, 77);
        desk.find(0, 3);
        parts("degree 8", desk, Model.drawn(Model.big(-1), 8, 77));
        desk.deal(0, 2, 3, 4, 78);
        desk.find(0, 0);
        parts("degree 2 behind one of 8", desk, Model.drawn(Model.big(4), 2, 78));
        for (int k : new int[] {-1, 9, Integer.MIN_VALUE, Integer.MAX_VALUE}) {
            Check.due("part(" + k + ")", () -> desk.part(k), Desks.NO_ELEMENT);
        }
    }

    private static void promise11Wrong() {
        SplitDesk desk = new SplitDesk();
        Desks.wrongPlaces("none was found", desk, "");
        desk.deal(0, 0, 16, 5, 5);
        for (int place : new int[] {1, 6, 16}) {
            desk.put(0, place, 4);
        }
        desk.lose(0, 7);
        Desks.wrongPlaces("none was found yet", desk, "");
        desk.find(0, 4);
        Desks.wrongPlaces("found", desk, "1 6 16");
        for (int place : new int[] {-1, 0, 17, Integer.MIN_VALUE, Integer.MAX_VALUE}) {
            Check.due("wrong(" + place + ")", () -> desk.wrong(place), false);
        }
        desk.put(0, 2, 9);
        desk.put(0, 6, 5);
        desk.lose(0, 16);
        Desks.wrongPlaces("as it was then", desk, "1 6 16");
        desk.mend();
        Desks.wrongPlaces("as it was then, behind a mend", desk, "1 6 16");
        desk.find(0, 4);
        Desks.wrongPlaces("found again, all mended", desk, "");
        desk.put(0, 3, 1);
        desk.put(0, 16, 1);
        desk.find(0, 4);
        Desks.wrongPlaces("found again", desk, "3 16");
        desk.deal(1, 0, 5, 1, 1);
        desk.put(1, 5, 2);
        desk.find(1, 1);
        Desks.wrongPlaces("found for one with fewer places", desk, "5");
    }

    private static void promise12Mend() {
        SplitDesk desk = new SplitDesk();
        Check.due("mend before find", () -> desk.mend(), false);
        desk.deal(6, 2, 9, 500, 5);
        Check.due("mend behind a deal", () -> desk.mend(), false);
        desk.put(6, 1, 1);
        desk.put(6, 9, 1);
        desk.lose(6, 5);
        desk.deal(2, 1, 3, 1, 1);
        long other = desk.share(2, 1);
        Check.due("find", () -> desk.find(6, 2), 2);
        Check.due("mend", () -> desk.mend(), true);
        BigInteger[] c = Model.drawn(BigInteger.valueOf(500), 2, 5);
        for (int i = 1; i <= 9; i++) {
            int place = i;
            Check.due("mended: share(6, " + place + ")", () -> desk.share(6, place), Model.value(c, Model.big(place)));
        }
        Check.due("mended: degree", () -> desk.split(6, 0), 2);
        Check.due("mended: n", () -> desk.split(6, 1), 9);
        Check.due("mended: another split", () -> desk.share(2, 1), other);
        Check.due("mend again", () -> desk.mend(), true);
        Check.due("what was found stays", () -> desk.at(0), 500);
    }

    private static void promise12MendAsItIsNow() {
        SplitDesk desk = new SplitDesk();
        desk.deal(0, 2, 5, 500, 5);
        desk.find(0, 0);
        BigInteger[] c = Model.drawn(BigInteger.valueOf(500), 2, 5);
        desk.deal(0, 1, 16, 3, 3);
        desk.lose(0, 16);
        Check.due("mend one that has more places now", () -> desk.mend(), true);
        Check.due("its degree stays", () -> desk.split(0, 0), 1);
        Check.due("its n", () -> desk.split(0, 1), 16);
        Check.due("all are there", () -> desk.split(0, 2), 16);
        Check.due("as the curve tells", () -> desk.share(0, 16), Model.value(c, Model.big(16)));
        Check.due("it is no line", () -> desk.find(0, 0), Desks.STATE);
        desk.deal(0, 0, 1, 3, 3);
        Check.due("mend one that has one place now", () -> desk.mend(), true);
        Check.due("at its place", () -> desk.share(0, 1), Model.value(c, Model.big(1)));
        Check.due("none at the next", () -> desk.share(0, 2), Desks.NO_ELEMENT);
        desk.join(0, 0, 7, 0);
        Check.due("mend one that has no places now", () -> desk.mend(), true);
        Check.due("it has none", () -> desk.split(0, 2), 0);
    }
}
