/** Promise 2, deal: its boundary cases. */
public final class Promise02BoundaryTest {
    private static final long P = Desks.P;

    public static void main(String[] args) {
        Cases.runAll(Promise02BoundaryTest.class);
    }

    private static void deals(int s, int t, int n, long number, long seed) {
        SplitDesk desk = Desks.busy();
        String call = "deal(" + s + ", " + t + ", " + n + ", " + number + ", " + seed + ")";
        Check.due(call, () -> desk.deal(s, t, n, number, seed), true);
        Desks.shape(call, desk, s, t, n, n);
        Desks.shares(call, desk, s, Desks.onDealt(t, n, number, seed));
    }

    private static void refuses(int s, int t, int n) {
        Desks.refused("deal(" + s + ", " + t + ", " + n + ", 5, 5)", desk -> desk.deal(s, t, n, 5, 5));
    }

    static void firstSplit() {
        deals(0, 1, 3, 5, 5);
    }

    static void lastSplit() {
        deals(7, 1, 3, 5, 5);
    }

    static void splitBelow0IsRefused() {
        refuses(-1, 1, 3);
        refuses(Desks.LEAST, 1, 3);
    }

    static void splitAbove7IsRefused() {
        refuses(8, 1, 3);
        refuses(Desks.MOST, 1, 3);
    }

    static void degree0() {
        deals(0, 0, 5, 6, 7);
    }

    static void degree8() {
        deals(0, 8, 12, 6, 7);
    }

    static void degreeBelow0IsRefused() {
        refuses(0, -1, 16);
        refuses(0, -1, 1);
        refuses(0, -1, 0);
        refuses(0, Desks.LEAST, 16);
        refuses(0, Desks.LEAST, Desks.LEAST + 1);
    }

    static void degreeAbove8IsRefused() {
        refuses(0, 9, 10);
        refuses(0, 9, 16);
        refuses(0, 15, 16);
        refuses(0, 16, 16);
    }

    /** t + 1 would wrap around to the least int. */
    static void greatestDegreeIsRefused() {
        refuses(0, Desks.MOST, 16);
        refuses(0, Desks.MOST, Desks.MOST);
        refuses(0, Desks.MOST, Desks.LEAST);
        refuses(0, Desks.MOST - 1, Desks.MOST);
    }

    static void placesOneMoreThanTheDegree() {
        for (int t = 0; t <= 8; t++) {
            deals(1, t, t + 1, 8, 9);
        }
    }

    static void placesJustTheDegreeIsRefused() {
        for (int t = 0; t <= 8; t++) {
            refuses(1, t, t);
        }
    }

    static void places16() {
        for (int t = 0; t <= 8; t++) {
            deals(1, t, 16, 8, 9);
        }
    }

    static void places17IsRefused() {
        for (int t = 0; t <= 8; t++) {
            refuses(1, t, 17);
        }
    }

    static void noPlacesIsRefused() {
        refuses(1, 0, 0);
        refuses(1, 8, 0);
    }

    static void placesBelow0IsRefused() {
        refuses(1, 0, -1);
        refuses(1, 8, -9);
        refuses(1, 0, Desks.LEAST);
    }

    static void greatestPlacesIsRefused() {
        refuses(1, 0, Desks.MOST);
        refuses(1, 8, Desks.MOST);
    }

    static void number0() {
        SplitDesk desk = Desks.dealt(0, 0, 2, 0, 1);
        Desks.shares("number 0", desk, 0, 0L, 0L);
        deals(0, 3, 4, 0, 1);
    }

    static void numberPLess1() {
        SplitDesk desk = Desks.dealt(0, 0, 2, P - 1, 1);
        Desks.shares("number P - 1", desk, 0, P - 1, P - 1);
        deals(0, 3, 4, P - 1, 1);
    }

    static void numberPIs0() {
        SplitDesk desk = Desks.dealt(0, 0, 2, P, 1);
        Desks.shares("number P", desk, 0, 0L, 0L);
        deals(0, 3, 4, P, 1);
    }

    static void numberBeyondP() {
        SplitDesk desk = Desks.dealt(0, 0, 2, P + 1, 1);
        Desks.shares("number P + 1", desk, 0, 1L, 1L);
        deals(0, 3, 4, Long.MAX_VALUE, 1);
    }

    static void numberBelow0() {
        SplitDesk desk = Desks.dealt(0, 0, 2, -1, 1);
        Desks.shares("number -1", desk, 0, P - 1, P - 1);
        deals(0, 3, 4, -P, 1);
        deals(0, 3, 4, Long.MIN_VALUE, 1);
    }

    /** The number is c0, and not a NEXT: c1 is the first. */
    static void firstNextIsC1() {
        SplitDesk desk = Desks.dealt(0, 1, 3, 1, 0);
        Desks.shares("seed 0", desk, 0, 180336880111120426L, 360673760222240851L, 541010640333361276L);
    }

    static void seedThatDoesNotWrap() {
        deals(0, 1, 2, 3, 0);
        deals(0, 1, 2, 3, 1);
    }

    static void seedThatWrapsAround() {
        deals(0, 1, 2, 3, 2);
        deals(0, 8, 16, 3, Long.MAX_VALUE);
    }

    static void seedBelow0() {
        deals(0, 1, 2, 3, -1);
        deals(0, 1, 2, 3, -2);
        deals(0, 8, 16, 3, Long.MIN_VALUE);
    }

    static void seedAtAndBeyondP() {
        deals(0, 2, 3, 3, P);
        deals(0, 2, 3, 3, P + 1);
    }

    /** The seed leads to a state of -1, so that c1 is P, which is 0. */
    static void seedWhoseFirstNextIs0() {
        SplitDesk desk = Desks.dealt(0, 1, 16, 44, -2810872687533676688L);
        Desks.shares("c1 is 0", desk, 0, Desks.allThe(44L, 16));
        Check.due("the degree is 1 nevertheless", () -> desk.split(0, 0), 1);
    }

    static void degree0DrawsNothing() {
        SplitDesk desk = new SplitDesk();
        for (long seed : new long[] {0, 1, -1, Long.MIN_VALUE, Long.MAX_VALUE}) {
            desk.deal(0, 0, 3, 12, seed);
            Desks.shares("seed " + seed, desk, 0, 12L, 12L, 12L);
        }
    }

    static void overOneWithFewerPlaces() {
        SplitDesk desk = Desks.laid(0, 0, 1L);
        Check.due("deal", () -> desk.deal(0, 0, 16, 2, 2), true);
        Desks.shape("more places", desk, 0, 0, 16, 16);
        Desks.shares("more places", desk, 0, Desks.allThe(2L, 16));
    }

    static void overOneWithMorePlaces() {
        SplitDesk desk = Desks.laid(0, 8, Desks.allThe(1L, 16));
        Check.due("deal", () -> desk.deal(0, 0, 1, 2, 2), true);
        Desks.shape("fewer places", desk, 0, 0, 1, 1);
        Desks.shares("fewer places", desk, 0, 2L);
    }

    static void overOneWhoseSharesAreAllLost() {
        SplitDesk desk = Desks.dealt(0, 2, 16, 1, 1);
        Desks.loseAll(desk, 0);
        Check.due("deal", () -> desk.deal(0, 1, 16, 2, 2), true);
        Desks.shape("all there again", desk, 0, 1, 16, 16);
        Desks.shares("all there again", desk, 0, Desks.onDealt(1, 16, 2, 2));
    }

    static void otherSplitsStay() {
        SplitDesk desk = Desks.busy();
        String before = Desks.seen(desk);
        Check.due("deal(5, ..)", () -> desk.deal(5, 8, 16, 1, 1), true);
        Check.due("join(5, 4, 4, 0)", () -> desk.join(5, 4, 4, 0), true);
        Check.same("with split 5 as it was", Desks.seen(desk), before);
    }

    static void whatWasFoundStays() {
        SplitDesk desk = Desks.busy();
        desk.deal(2, 8, 16, 1, 1);
        Desks.parts("dealt anew", desk, Desks.drawnParts(74, 1, 75));
        Desks.wrongPlaces("dealt anew", desk, "3 7");
    }
}
