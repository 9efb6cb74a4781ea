import java.math.BigInteger;

/** Promise 7, renew: its boundary cases. */
public final class Promise07BoundaryTest {
    private static final long P = Desks.P;

    public static void main(String[] args) {
        Cases.runAll(Promise07BoundaryTest.class);
    }

    private static void refuses(int s) {
        Desks.refused("renew(" + s + ", 5)", desk -> desk.renew(s, 5));
    }

    /** A split dealt of a number, and then renewed: its shares, and that they still tell the number. */
    private static void renews(int s, int t, int n, long seed) {
        SplitDesk desk = Desks.dealt(s, t, n, 99, 4);
        String call = "renew(" + s + ", " + seed + ") of degree " + t;
        Check.due(call, () -> desk.renew(s, seed), true);
        BigInteger[] sum = Model.drawn(Model.big(99), t, 4);
        BigInteger[] more = Model.drawn(BigInteger.ZERO, t, seed);
        for (int k = 0; k <= t; k++) {
            sum[k] = sum[k].add(more[k]).mod(Model.P);
        }
        Desks.shape(call, desk, s, t, n, n);
        Desks.shares(call, desk, s, Desks.onCurve(sum, n));
        Check.due(call + ": find", () -> desk.find(s, 0), 0);
        Check.due(call + ": the number", () -> desk.at(0), 99);
    }

    static void firstSplit() {
        renews(0, 2, 5, 7);
    }

    static void lastSplit() {
        renews(7, 2, 5, 7);
    }

    static void splitBelow0IsRefused() {
        refuses(-1);
        refuses(Desks.LEAST);
    }

    static void splitAbove7IsRefused() {
        refuses(8);
        refuses(Desks.MOST);
    }

    /** There is such a split: it has nothing that anything could come to. */
    static void splitOfNoShares() {
        Desks.changesNothing("renew(4, 5)", Desks::busy, desk -> desk.renew(4, 5), true);
    }

    /** Split 3 has lost all. */
    static void allLost() {
        Desks.changesNothing("renew(3, 5)", Desks::busy, desk -> desk.renew(3, 5), true);
    }

    static void lostStaysLost() {
        SplitDesk desk = Desks.laid(3, 1, 10L, null, 20L);
        Check.due("renew(3, 0)", () -> desk.renew(3, 0), true);
        Desks.shape("renewed", desk, 3, 1, 3, 2);
        Desks.shares("renewed", desk, 3, 180336880111120435L, null, 541010640333361295L);
    }

    static void degree0DrawsNothing() {
        SplitDesk desk = Desks.laid(3, 0, 10L, 11L, null, 0L);
        Check.due("renew(3, 5)", () -> desk.renew(3, 5), true);
        Desks.shares("as they were", desk, 3, 10L, 11L, null, 0L);
    }

    static void degree8Draws8() {
        renews(3, 8, 9, 7);
        renews(3, 8, 16, 7);
    }

    static void all16Places() {
        renews(3, 1, 16, 7);
    }

    static void fewestPlaces() {
        renews(3, 0, 1, 7);
        renews(3, 1, 2, 7);
    }

    static void seedThatDoesNotWrap() {
        renews(3, 1, 2, 0);
        renews(3, 1, 2, 1);
    }

    static void seedThatWrapsAround() {
        renews(3, 1, 2, 2);
        renews(3, 8, 9, Long.MAX_VALUE);
    }

    static void seedBelow0() {
        renews(3, 1, 2, -1);
        renews(3, 1, 2, -2);
        renews(3, 8, 9, Long.MIN_VALUE);
    }

    static void seedAtAndBeyondP() {
        renews(3, 2, 3, P);
        renews(3, 2, 3, P + 1);
    }

    /** The seed leads to a state of -1, so that c1 is P, which is 0. */
    static void seedWhoseFirstNextIs0() {
        SplitDesk desk = Desks.laid(3, 1, 10L, 20L, 31L);
        Check.due("renew", () -> desk.renew(3, -2810872687533676688L), true);
        Desks.shares("as they were", desk, 3, 10L, 20L, 31L);
    }

    /** The seed leads to a state of -9, so that c1 is P - 1: each place takes its own number away. */
    static void justBelowAtAndAboveP() {
        SplitDesk desk = Desks.laid(3, 1, 0L, 1L, 3L, 5L);
        Check.due("renew", () -> desk.renew(3, -3153001370990943672L), true);
        Desks.shares("less the place", desk, 3, P - 1, P - 1, 0L, 1L);
    }

    /** Degree 8 at 5 places, from a product: all 8 NEXTs count. */
    static void degreeAboveItsPlaces() {
        SplitDesk desk = Desks.dealt(0, 4, 5, 2, 2);
        desk.join(1, 0, 0, 2);
        Desks.lay(desk, 0, 0, 0L, 0L, 0L, 0L, 0L);
        desk.join(1, 1, 0, 2);
        Desks.shape("nothing but 0", desk, 1, 8, 5, 5);
        Check.due("renew(1, 6)", () -> desk.renew(1, 6), true);
        Desks.shares("renewed", desk, 1, Desks.onDealt(8, 5, 0, 6));
    }

    static void otherSplitsStay() {
        SplitDesk desk = Desks.busy();
        String before = Desks.seen(desk);
        desk.deal(5, 2, 4, 4, 4);
        desk.renew(5, 5);
        desk.join(5, 4, 4, 0);
        Check.same("with split 5 as it was", Desks.seen(desk), before);
    }

    static void whatWasFoundStays() {
        SplitDesk desk = Desks.busy();
        desk.renew(2, 5);
        Desks.parts("renewed", desk, Desks.drawnParts(74, 1, 75));
        Desks.wrongPlaces("renewed", desk, "3 7");
    }
}
