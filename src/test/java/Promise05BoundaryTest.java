/** Promise 5, join: its boundary cases. */
public final class Promise05BoundaryTest {
    private static final long P = Desks.P;

    public static void main(String[] args) {
        Cases.runAll(Promise05BoundaryTest.class);
    }

    private static void refuses(int to, int a, int b, int how) {
        Desks.refused("join(" + to + ", " + a + ", " + b + ", " + how + ")", desk -> desk.join(to, a, b, how));
    }

    private static void joins(SplitDesk desk, int to, int a, int b, int how) {
        Check.due("join(" + to + ", " + a + ", " + b + ", " + how + ")", () -> desk.join(to, a, b, how), true);
    }

    private static SplitDesk two(int a, Long[] first, int b, Long[] second) {
        SplitDesk desk = Desks.laid(a, 0, first);
        Desks.lay(desk, b, 0, second);
        return desk;
    }

    private static Long[] row(Long... values) {
        return values;
    }

    static void intoTheFirstAndTheLastSplit() {
        SplitDesk desk = two(1, row(3L), 2, row(4L));
        joins(desk, 0, 1, 2, 0);
        Desks.shares("into 0", desk, 0, 7L);
        joins(desk, 7, 1, 2, 0);
        Desks.shares("into 7", desk, 7, 7L);
    }

    static void ofTheFirstAndTheLastSplit() {
        SplitDesk desk = two(0, row(9L), 7, row(4L));
        joins(desk, 1, 0, 7, 1);
        Desks.shares("0 less 7", desk, 1, 5L);
        joins(desk, 1, 7, 0, 1);
        Desks.shares("7 less 0", desk, 1, P - 5);
    }

    static void intoASplitBelow0IsRefused() {
        refuses(-1, 0, 1, 0);
        refuses(Desks.LEAST, 0, 1, 0);
    }

    static void intoASplitAbove7IsRefused() {
        refuses(8, 0, 1, 0);
        refuses(Desks.MOST, 0, 1, 0);
    }

    static void firstBelow0IsRefused() {
        refuses(0, -1, 1, 0);
        refuses(0, Desks.LEAST, 1, 0);
    }

    static void firstAbove7IsRefused() {
        refuses(0, 8, 1, 0);
        refuses(0, Desks.MOST, 1, 0);
    }

    static void secondBelow0IsRefused() {
        refuses(0, 1, -1, 0);
        refuses(0, 1, Desks.LEAST, 0);
    }

    static void secondAbove7IsRefused() {
        refuses(0, 1, 8, 0);
        refuses(0, 1, Desks.MOST, 0);
    }

    static void how0AddsUp() {
        SplitDesk desk = two(0, row(9L), 1, row(4L));
        joins(desk, 2, 0, 1, 0);
        Desks.shares("how 0", desk, 2, 13L);
    }

    static void how1TakesTheSecondFromTheFirst() {
        SplitDesk desk = two(0, row(9L), 1, row(4L));
        joins(desk, 2, 0, 1, 1);
        Desks.shares("how 1", desk, 2, 5L);
    }

    static void how2IsTheProduct() {
        SplitDesk desk = two(0, row(9L), 1, row(4L));
        joins(desk, 2, 0, 1, 2);
        Desks.shares("how 2", desk, 2, 36L);
    }

    static void howBelow0IsRefused() {
        refuses(0, 0, 1, -1);
        refuses(0, 0, 1, Desks.LEAST);
    }

    static void howAbove2IsRefused() {
        refuses(0, 0, 1, 3);
        refuses(0, 0, 1, Desks.MOST);
    }

    static void sumIsPOrAbove() {
        SplitDesk desk = two(0, row(P - 2, P - 1, P - 1), 1, row(1L, 1L, P - 1));
        joins(desk, 2, 0, 1, 0);
        Desks.shares("added up", desk, 2, P - 1, 0L, P - 2);
    }

    static void differenceIsBelow0() {
        SplitDesk desk = two(0, row(5L, 4L, 0L), 1, row(5L, 5L, P - 1));
        joins(desk, 2, 0, 1, 1);
        Desks.shares("taken", desk, 2, 0L, P - 1, 1L);
    }

    static void productIsPOrAbove() {
        SplitDesk desk = two(0, row(0L, P - 1, 1L << 60, P - 1), 1, row(P - 1, P - 1, 2L, 1L));
        joins(desk, 2, 0, 1, 2);
        Desks.shares("product", desk, 2, 0L, 1L, 1L, P - 1);
    }

    private static void degreeOf(int t, int u, int how, int due) {
        SplitDesk desk = Desks.dealt(0, t, 16, 5, 5);
        desk.deal(1, u, 16, 6, 6);
        joins(desk, 2, 0, 1, how);
        Desks.shape("of the degrees " + t + " and " + u + " by " + how, desk, 2, due, 16, 16);
    }

    static void degreeOfASumIsTheGreaterOne() {
        degreeOf(0, 0, 0, 0);
        degreeOf(3, 5, 0, 5);
        degreeOf(5, 3, 0, 5);
        degreeOf(0, 8, 0, 8);
        degreeOf(8, 8, 0, 8);
    }

    static void degreeOfADifferenceIsTheGreaterOne() {
        degreeOf(0, 0, 1, 0);
        degreeOf(3, 5, 1, 5);
        degreeOf(5, 3, 1, 5);
        degreeOf(8, 0, 1, 8);
        degreeOf(8, 8, 1, 8);
    }

    static void degreeOfAProductIsTheSum() {
        degreeOf(0, 0, 2, 0);
        degreeOf(1, 2, 2, 3);
        degreeOf(3, 4, 2, 7);
    }

    static void productOfDegree8() {
        for (int t = 0; t <= 8; t++) {
            degreeOf(t, 8 - t, 2, 8);
        }
    }

    private static SplitDesk withDegrees(int t, int u) {
        SplitDesk desk = Desks.busy();
        desk.deal(5, t, 12, 5, 5);
        desk.deal(6, u, 12, 6, 6);
        return desk;
    }

    static void productOfDegree9IsRefused() {
        for (int i = 1; i <= 8; i++) {
            int t = i;
            Desks.changesNothing("a product of " + t + " and " + (9 - t), () -> withDegrees(t, 9 - t),
                desk -> desk.join(0, 5, 6, 2), false);
        }
    }

    static void productOfDegree16IsRefused() {
        Desks.changesNothing("a product of 8 and 8", () -> withDegrees(8, 8), desk -> desk.join(0, 5, 6, 2), false);
    }

    /** The degree counts, also where no share would be multiplied: split 3 has lost all, and split 1 has degree 4. */
    static void productOfDegree9IsRefusedEvenIfAllAreLost() {
        refuses(4, 3, 1, 2);
        refuses(3, 3, 1, 2);
    }

    static void productRefusedOntoOneOfTheTwo() {
        Desks.changesNothing("onto the first", () -> withDegrees(4, 5), desk -> desk.join(5, 5, 6, 2), false);
        Desks.changesNothing("onto the second", () -> withDegrees(4, 5), desk -> desk.join(6, 5, 6, 2), false);
        Desks.changesNothing("of one alone", () -> withDegrees(4, 5), desk -> desk.join(6, 6, 6, 2), false);
    }

    static void fewerPlacesOfTheFirst() {
        SplitDesk desk = two(0, row(1L, 2L), 1, row(10L, 20L, 30L));
        joins(desk, 2, 0, 1, 0);
        Desks.shape("two places", desk, 2, 0, 2, 2);
        Desks.shares("two places", desk, 2, 11L, 22L);
    }

    static void fewerPlacesOfTheSecond() {
        SplitDesk desk = two(0, row(10L, 20L, 30L), 1, row(1L, 2L));
        joins(desk, 2, 0, 1, 0);
        Desks.shape("two places", desk, 2, 0, 2, 2);
        Desks.shares("two places", desk, 2, 11L, 22L);
    }

    static void onePlaceWith16() {
        SplitDesk desk = two(0, Desks.allThe(5L, 16), 1, row(1L));
        joins(desk, 2, 0, 1, 1);
        Desks.shape("one place", desk, 2, 0, 1, 1);
        Desks.shares("one place", desk, 2, 4L);
    }

    static void all16PlacesOfBoth() {
        SplitDesk desk = two(0, Desks.allThe(5L, 16), 1, Desks.allThe(3L, 16));
        joins(desk, 2, 0, 1, 2);
        Desks.shape("16 places", desk, 2, 0, 16, 16);
        Desks.shares("16 places", desk, 2, Desks.allThe(15L, 16));
    }

    static void lostInTheFirstIsLost() {
        SplitDesk desk = two(0, row(null, 2L, null), 1, row(10L, 20L, 30L));
        joins(desk, 2, 0, 1, 0);
        Desks.shape("lost in the first", desk, 2, 0, 3, 1);
        Desks.shares("lost in the first", desk, 2, null, 22L, null);
    }

    static void lostInTheSecondIsLost() {
        SplitDesk desk = two(0, row(10L, 20L, 30L), 1, row(null, 2L, null));
        joins(desk, 2, 0, 1, 0);
        Desks.shape("lost in the second", desk, 2, 0, 3, 1);
        Desks.shares("lost in the second", desk, 2, null, 22L, null);
    }

    static void lostInBothIsLost() {
        SplitDesk desk = two(0, row(1L, null), 1, row(10L, null));
        joins(desk, 2, 0, 1, 2);
        Desks.shape("lost in both", desk, 2, 0, 2, 1);
        Desks.shares("lost in both", desk, 2, 10L, null);
    }

    static void noPlaceWhereBothAreThere() {
        SplitDesk desk = two(0, row(1L, null), 1, row(null, 2L));
        joins(desk, 2, 0, 1, 0);
        Desks.shape("none in both", desk, 2, 0, 2, 0);
        Desks.shares("none in both", desk, 2, null, null);
    }

    static void withOneWhoseSharesAreAllLost() {
        SplitDesk desk = two(0, row(1L, 2L, 3L), 1, row(null, null));
        joins(desk, 2, 0, 1, 0);
        Desks.shape("all lost", desk, 2, 0, 2, 0);
        Desks.shares("all lost", desk, 2, null, null);
        joins(desk, 2, 1, 0, 2);
        Desks.shape("all lost", desk, 2, 0, 2, 0);
    }

    static void withASplitOfNoShares() {
        SplitDesk desk = Desks.dealt(0, 3, 5, 1, 1);
        desk.deal(2, 8, 16, 1, 1);
        joins(desk, 2, 0, 6, 0);
        Desks.shape("the second has none", desk, 2, 3, 0, 0);
        Desks.shares("the second has none", desk, 2);
        desk.deal(2, 8, 16, 1, 1);
        joins(desk, 2, 6, 0, 2);
        Desks.shape("the first has none", desk, 2, 3, 0, 0);
        Desks.shares("the first has none", desk, 2);
    }

    static void ofTwoSplitsOfNoShares() {
        SplitDesk desk = Desks.dealt(2, 8, 16, 1, 1);
        joins(desk, 2, 5, 6, 1);
        Desks.shape("neither has any", desk, 2, 0, 0, 0);
        Desks.shares("neither has any", desk, 2);
    }

    static void ofTwoSplitsOfNoSharesButADegree() {
        SplitDesk desk = Desks.dealt(0, 5, 6, 1, 1);
        joins(desk, 0, 0, 7, 0);
        Desks.shape("no places, degree 5", desk, 0, 5, 0, 0);
        Check.due("a product of degree 10", () -> desk.join(1, 0, 0, 2), false);
        joins(desk, 1, 0, 0, 0);
        Desks.shape("added up", desk, 1, 5, 0, 0);
    }

    /** Fewer places than the degree needs are none of what is refused. */
    static void productOfFewerPlacesThanItsDegreeNeeds() {
        SplitDesk desk = Desks.dealt(0, 4, 5, 2, 2);
        joins(desk, 1, 0, 0, 2);
        Desks.shape("product", desk, 1, 8, 5, 5);
        Check.due("find(1, 0)", () -> desk.find(1, 0), Desks.ARGUMENT);
    }

    static void ontoTheFirst() {
        SplitDesk desk = two(0, row(10L, 20L, 30L, 40L), 1, row(1L, null, 3L));
        joins(desk, 0, 0, 1, 1);
        Desks.shape("onto the first", desk, 0, 0, 3, 2);
        Desks.shares("onto the first", desk, 0, 9L, null, 27L);
        Desks.shares("the second stays", desk, 1, 1L, null, 3L);
    }

    static void ontoTheSecond() {
        SplitDesk desk = two(0, row(10L, null, 30L), 1, row(1L, 2L, 3L, 4L));
        joins(desk, 1, 0, 1, 1);
        Desks.shape("onto the second", desk, 1, 0, 3, 2);
        Desks.shares("onto the second", desk, 1, 9L, null, 27L);
        Desks.shares("the first stays", desk, 0, 10L, null, 30L);
    }

    static void ontoTheOneThatHasFewerPlaces() {
        SplitDesk desk = two(0, row(10L, 20L), 1, row(1L, 2L, 3L));
        joins(desk, 0, 0, 1, 0);
        Desks.shape("fewer places", desk, 0, 0, 2, 2);
        Desks.shares("fewer places", desk, 0, 11L, 22L);
    }

    static void ofOneAlone() {
        SplitDesk desk = Desks.laid(0, 2, 10L, null, P - 1);
        joins(desk, 1, 0, 0, 0);
        Desks.shares("doubled", desk, 1, 20L, null, P - 2);
        joins(desk, 1, 0, 0, 1);
        Desks.shares("less itself", desk, 1, 0L, null, 0L);
        joins(desk, 1, 0, 0, 2);
        Desks.shape("its square", desk, 1, 4, 3, 2);
        Desks.shares("its square", desk, 1, 100L, null, 1L);
    }

    static void ofOneAloneOntoItself() {
        SplitDesk desk = Desks.laid(0, 2, 10L, null, P - 1);
        joins(desk, 0, 0, 0, 2);
        Desks.shape("its square", desk, 0, 4, 3, 2);
        Desks.shares("its square", desk, 0, 100L, null, 1L);
        joins(desk, 0, 0, 0, 2);
        Desks.shape("its fourth power", desk, 0, 8, 3, 2);
        Desks.shares("its fourth power", desk, 0, 10000L, null, 1L);
        Check.due("its eighth power", () -> desk.join(0, 0, 0, 2), false);
        Desks.shape("refused", desk, 0, 8, 3, 2);
        joins(desk, 0, 0, 0, 1);
        Desks.shape("less itself", desk, 0, 8, 3, 2);
        Desks.shares("less itself", desk, 0, 0L, null, 0L);
    }

    static void intoOneThatHadMorePlaces() {
        SplitDesk desk = two(0, row(10L, 20L), 1, row(1L, 2L));
        desk.deal(2, 8, 16, 3, 3);
        joins(desk, 2, 0, 1, 0);
        Desks.shape("two places now", desk, 2, 0, 2, 2);
        Desks.shares("two places now", desk, 2, 11L, 22L);
        Check.due("share(2, 16)", () -> desk.share(2, 16), Desks.NO_ELEMENT);
    }

    static void intoOneThatHadFewerPlaces() {
        SplitDesk desk = two(0, Desks.allThe(6L, 16), 1, Desks.allThe(1L, 16));
        desk.deal(2, 0, 1, 3, 3);
        joins(desk, 2, 0, 1, 0);
        Desks.shape("16 places now", desk, 2, 0, 16, 16);
        Desks.shares("16 places now", desk, 2, Desks.allThe(7L, 16));
    }

    static void intoOneWhoseSharesAreAllLost() {
        SplitDesk desk = two(0, row(10L, 20L), 1, row(1L, 2L));
        Desks.lay(desk, 2, 0, null, null);
        joins(desk, 2, 0, 1, 0);
        Desks.shares("there again", desk, 2, 11L, 22L);
    }

    /** What it had at places that it no longer has does not come back. */
    static void lostStaysLostWhereThePlaceHadAShareBefore() {
        SplitDesk desk = two(0, row(10L, null), 1, row(1L, 2L));
        Desks.lay(desk, 2, 0, 7L, 8L);
        joins(desk, 2, 0, 1, 0);
        Desks.shares("lost at place 2", desk, 2, 11L, null);
    }

    static void whatWasFoundStays() {
        SplitDesk desk = Desks.busy();
        joins(desk, 2, 0, 1, 0);
        Desks.parts("joined over it", desk, Desks.drawnParts(74, 1, 75));
        Desks.wrongPlaces("joined over it", desk, "3 7");
    }
}
