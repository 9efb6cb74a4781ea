/** The boundary cases that the terms name: numbers, curves, splits, the generator, and what is found. */
public final class TermsBoundaryTest {
    private static final long P = Desks.P;

    public static void main(String[] args) {
        Cases.runAll(TermsBoundaryTest.class);
    }

    private static void isTakenAs(long outside, long number) {
        SplitDesk desk = Desks.dealt(0, 0, 1, 5, 0);
        Check.due("put(0, 1, " + outside + ")", () -> desk.put(0, 1, outside), true);
        Check.due("share(0, 1) of " + outside, () -> desk.share(0, 1), number);
    }

    static void numbersLeastIs0() {
        isTakenAs(0, 0);
        isTakenAs(1, 1);
    }

    static void numbersGreatestIsPLess1() {
        isTakenAs(P - 1, P - 1);
        isTakenAs(P - 2, P - 2);
    }

    static void numbersPItselfIs0() {
        isTakenAs(P, 0);
    }

    static void numbersBeyondPBeginAgain() {
        isTakenAs(P + 1, 1);
        isTakenAs(2 * P - 1, P - 1);
        isTakenAs(2 * P, 0);
        isTakenAs(2 * P + 1, 1);
        isTakenAs(3 * P, 0);
        isTakenAs(4 * P - 1, P - 1);
        isTakenAs(4 * P, 0);
    }

    static void numbersBelow0CountFromP() {
        isTakenAs(-1, P - 1);
        isTakenAs(-2, P - 2);
        isTakenAs(-P + 1, 1);
        isTakenAs(-P, 0);
        isTakenAs(-P - 1, P - 1);
        isTakenAs(-2 * P, 0);
        isTakenAs(-4 * P, 0);
        isTakenAs(-4 * P - 1, P - 1);
    }

    static void numbersGreatestAndLeastLong() {
        isTakenAs(Long.MAX_VALUE, 3);
        isTakenAs(Long.MAX_VALUE - 3, 0);
        isTakenAs(Long.MIN_VALUE, P - 4);
        isTakenAs(Long.MIN_VALUE + 4, 0);
    }

    private static void joinsTo(int how, long a, long b, long due) {
        SplitDesk desk = Desks.laid(0, 0, a);
        Desks.lay(desk, 1, 0, b);
        Check.due("join(2, 0, 1, " + how + ")", () -> desk.join(2, 0, 1, how), true);
        Check.due(a + " and " + b + " joined by " + how, () -> desk.share(2, 1), due);
    }

    static void numbersSumJustBelowAtAndAboveP() {
        joinsTo(0, P - 1, 0, P - 1);
        joinsTo(0, P - 2, 1, P - 1);
        joinsTo(0, P - 1, 1, 0);
        joinsTo(0, 1L << 60, (1L << 60) - 1, 0);
        joinsTo(0, 1L << 60, 1L << 60, 1);
        joinsTo(0, P - 1, P - 1, P - 2);
    }

    static void numbersDifferenceJustAboveAtAndBelow0() {
        joinsTo(1, 6, 5, 1);
        joinsTo(1, 5, 5, 0);
        joinsTo(1, 5, 6, P - 1);
        joinsTo(1, 0, P - 1, 1);
        joinsTo(1, P - 1, 0, P - 1);
        joinsTo(1, 0, 0, 0);
    }

    static void numbersProductBeyondALong() {
        joinsTo(2, 0, P - 1, 0);
        joinsTo(2, 1, P - 1, P - 1);
        joinsTo(2, 2, 1L << 60, 1);
        joinsTo(2, 2, (1L << 60) - 1, P - 1);
        joinsTo(2, 1L << 31, 1L << 30, 1);
        joinsTo(2, 1L << 60, 1L << 60, 1L << 59);
        joinsTo(2, P - 1, P - 1, 1);
        joinsTo(2, P - 1, 2, P - 2);
        joinsTo(2, P - 2, P - 3, 6);
    }

    /** A line that rises by 1 from place 1 to another place has 1 / (the way between them) as its c1. */
    static void numbersOneThroughAIsWhatGives1TimesA() {
        for (int way = 1; way <= 15; way++) {
            SplitDesk desk = Desks.dealt(0, 1, 16, 0, 0);
            Desks.loseAll(desk, 0);
            desk.put(0, 1, 0);
            desk.put(0, 1 + way, 1);
            Check.due("find(0, 0)", () -> desk.find(0, 0), 0);
            long inverse = desk.part(1);
            Check.same("1 / " + way + " is a number", inverse >= 0 && inverse < P, true);
            Check.same(way + " / " + way, Model.big(inverse).multiply(Model.big(way)).mod(Model.P), 1);
        }
    }

    static void numbersOneHalfIs2To60() {
        SplitDesk desk = Desks.laid(0, 1, 0L, null, 1L);
        Check.due("find(0, 0)", () -> desk.find(0, 0), 0);
        Desks.parts("the line from 0 to 1 in two places", desk, P - (1L << 60), 1L << 60);
    }

    static void curveOfDegree0IsC0Everywhere() {
        SplitDesk desk = Desks.dealt(0, 0, 16, 77, 3);
        Desks.shares("degree 0", desk, 0, Desks.allThe(77L, 16));
        desk.find(0, 0);
        Desks.parts("degree 0", desk, 77);
        Check.due("at(-1)", () -> desk.at(-1), 77);
    }

    static void curveOfDegree8HasNineParts() {
        SplitDesk desk = Desks.dealt(0, 8, 16, 77, 3);
        desk.find(0, 3);
        Desks.parts("degree 8", desk, Desks.drawnParts(77, 8, 3));
        Check.same("c8 is not 0", desk.part(8) != 0, true);
    }

    static void degreeIs0To8() {
        SplitDesk desk = new SplitDesk();
        Check.due("degree -1", () -> desk.deal(0, -1, 16, 1, 1), false);
        Check.due("degree 0", () -> desk.deal(0, 0, 16, 1, 1), true);
        Check.due("split(0, 0)", () -> desk.split(0, 0), 0);
        Check.due("degree 8", () -> desk.deal(0, 8, 16, 1, 1), true);
        Check.due("split(0, 0)", () -> desk.split(0, 0), 8);
        Check.due("degree 9", () -> desk.deal(0, 9, 16, 1, 1), false);
        Check.due("split(0, 0)", () -> desk.split(0, 0), 8);
    }

    static void splitsAre0To7() {
        SplitDesk desk = new SplitDesk();
        for (int i = -2; i <= 9; i++) {
            int s = i;
            boolean isOne = s >= 0 && s <= 7;
            Check.due("deal(" + s + ", ..)", () -> desk.deal(s, 0, 1, 100 + s, 0), isOne);
        }
        for (int i = -2; i <= 9; i++) {
            int s = i;
            boolean isOne = s >= 0 && s <= 7;
            Check.due("share(" + s + ", 1)", () -> desk.share(s, 1), isOne ? 100 + s : Desks.NO_ELEMENT);
            Check.due("split(" + s + ", 1)", () -> desk.split(s, 1), isOne ? 1 : -1);
        }
    }

    static void splitsAtFirstHaveDegree0AndNoShares() {
        SplitDesk desk = new SplitDesk();
        for (int s = 0; s < 8; s++) {
            Desks.shape("at first", desk, s, 0, 0, 0);
            Desks.shares("at first", desk, s);
        }
    }

    static void splitOfOnePlaceIsTheLeast() {
        SplitDesk desk = Desks.dealt(0, 0, 1, 9, 9);
        Desks.shape("one place", desk, 0, 0, 1, 1);
        Desks.shares("one place", desk, 0, 9L);
    }

    static void splitOf16PlacesIsTheMost() {
        SplitDesk desk = Desks.dealt(0, 0, 16, 9, 9);
        Desks.shape("16 places", desk, 0, 0, 16, 16);
        Desks.shares("16 places", desk, 0, Desks.allThe(9L, 16));
        Check.due("17 places", () -> desk.deal(0, 0, 17, 9, 9), false);
    }

    static void shareIsThereOrLost() {
        SplitDesk desk = Desks.laid(0, 0, 9L, null);
        Desks.shape("one there, one lost", desk, 0, 0, 2, 1);
        Desks.shares("one there, one lost", desk, 0, 9L, null);
    }

    /** What comes first from the seed, told by what c1 adds from place to place. */
    private static void firstNext(long seed, long due) {
        SplitDesk desk = Desks.dealt(0, 1, 2, 0, seed);
        Check.due("the first NEXT from " + seed, () -> desk.share(0, 1), due);
        desk.find(0, 0);
        Check.due("c1 from " + seed, () -> desk.part(1), due);
    }

    private static void firstThreeNexts(long seed, long... due) {
        SplitDesk desk = Desks.dealt(0, 3, 4, 11, seed);
        desk.find(0, 0);
        Desks.parts("from " + seed, desk, 11, due[0], due[1], due[2]);
    }

    static void generatorStateThatDoesNotWrapYet() {
        firstNext(0, 180336880111120425L);
        firstNext(1, 975853908091969551L);
    }

    static void generatorStateWrapsAboveTheGreatestLong() {
        firstNext(2, 1771370936072818677L);
        firstNext(3, 261044954839973850L);
        firstNext(Long.MAX_VALUE, 537741356737118276L);
    }

    static void generatorStateBelow0IsShiftedWithoutSign() {
        firstNext(-1, 1690662861343965252L);
    }

    static void generatorStateWrapsBelowTheLeastLong() {
        firstNext(-2, 895145833363116126L);
        firstNext(Long.MIN_VALUE, 1333258384717967401L);
    }

    /** Seeds that lead to states of -8 and -1: all the 61 bits are 1, which is P. */
    static void generatorNextOfPIs0() {
        firstNext(-7721921303986173203L, 0);
        firstNext(-2810872687533676688L, 0);
    }

    /** Seeds that lead to states of -16 and -9. */
    static void generatorGreatestNextIsPLess1() {
        firstNext(-8064049987443440187L, P - 1);
        firstNext(-3153001370990943672L, P - 1);
    }

    /** Seeds that lead to states of 0 and 7, and then of 8. */
    static void generatorLeastNextIs0() {
        firstNext(-7379792620528906219L, 0);
        firstNext(-2468744004076409704L, 0);
        firstNext(-7037663937071639235L, 1);
    }

    /** Seeds that lead to the greatest long and to the least one as states. */
    static void generatorStateAtTheSign() {
        firstNext(6412499349321099120L, (1L << 60) - 1);
        firstNext(1843579416325869589L, 1L << 60);
    }

    static void generatorGoesOnFromItsState() {
        firstThreeNexts(0, 180336880111120425L, 234501375476059558L, 1395780551789400099L);
        firstThreeNexts(-1, 1690662861343965252L, 1600232169150961641L, 1296546127550196484L);
        firstThreeNexts(7, 1137270057549676401L, 2203600865820214738L, 2090421521463825401L);
    }

    /** The state is said to be a long: P as a seed is another one than 0. */
    static void generatorSeedIsALongAsItIs() {
        firstThreeNexts(P, 825971732888830020L, 1888462545302673385L, 431854999095061252L);
        firstThreeNexts(P + 1, 1621488760869679145L, 522731751627771302L, 531089423334264867L);
    }

    static void foundNeedsDegreeAnd1And2EShares() {
        for (int t = 0; t <= 8; t++) {
            for (int e = 0; t + 1 + 2 * e <= 16; e++) {
                int least = t + 1 + 2 * e;
                int most = e;
                SplitDesk desk = Desks.dealt(0, t, 16, 40 + t, e);
                for (int place = 16; place > least; place--) {
                    desk.lose(0, place);
                }
                String when = "degree " + t + ", e " + e + ": ";
                Check.due(when + least + " are there", () -> desk.find(0, most), 0);
                Desks.parts(when, desk, Desks.drawnParts(40 + t, t, e));
                desk.lose(0, 1);
                Check.due(when + "one fewer is there", () -> desk.find(0, most), Desks.ARGUMENT);
            }
        }
    }

    /** More shares than it needs do not allow more than e wrong ones. */
    static void foundGoesThroughAtLeastMLessEEvenOfMany() {
        SplitDesk desk = Desks.laid(0, 0, Desks.allThe(4L, 16));
        desk.put(0, 8, 5);
        Check.due("15 of 16 on it, e 1", () -> desk.find(0, 1), 1);
        desk.put(0, 9, 6);
        Check.due("14 of 16 on it, e 1", () -> desk.find(0, 1), Desks.STATE);
        Check.due("14 of 16 on it, e 2", () -> desk.find(0, 2), 2);
    }

    static void foundIsOfAtMostTheDegree() {
        SplitDesk desk = Desks.laid(0, 2, 5L, 8L, 11L, 14L);
        Check.due("a line, degree 2", () -> desk.find(0, 0), 0);
        Desks.parts("a line", desk, 2, 3);
        Desks.lay(desk, 0, 2, 1L, 4L, 9L, 16L);
        Check.due("squares, degree 2", () -> desk.find(0, 0), 0);
        Desks.parts("squares", desk, 0, 0, 1);
        Desks.lay(desk, 0, 2, 1L, 8L, 27L, 64L);
        Check.due("cubes, degree 2", () -> desk.find(0, 0), Desks.STATE);
    }

    static void foundLeavesOutWhatIsLost() {
        SplitDesk desk = Desks.laid(0, 0, 4L, null, 4L, null, 5L);
        Check.due("two of three that are there", () -> desk.find(0, 1), 1);
        Desks.wrongPlaces("two of three", desk, "5");
    }

    static void wrongAreTheOthers() {
        SplitDesk desk = Desks.laid(0, 0, 4L, 5L, 4L, 6L, 4L, 4L);
        Check.due("four of six, e 2", () -> desk.find(0, 2), 2);
        Desks.wrongPlaces("four of six", desk, "2 4");
        Check.due("at(0)", () -> desk.at(0), 4);
    }

    /** Behind 511 calls: split 3 has the shares 20, 21, 20, 22 and a lost one, and a curve was found for it or not. */
    private static void asThe512thCall(String what, boolean found, Desks.DeskCall call, Object due) {
        SplitDesk desk = new SplitDesk();
        desk.deal(3, 0, 5, 20, 0);
        desk.put(3, 2, 21);
        desk.lose(3, 5);
        Check.due("call 4", () -> desk.find(3, found ? 1 : 0), found ? 1 : Desks.STATE);
        desk.put(3, 4, 22);
        for (int made = 5; made < 511; made++) {
            desk.deal(4, 8, 16, made, made);
        }
        Check.due("call 512, " + what, () -> call.answer(desk), due);
    }

    static void the512thCallIsAnsweredByTheSplits() {
        asThe512thCall("deal", false, desk -> desk.deal(0, 8, 9, 1, 1), true);
        asThe512thCall("deal refused", false, desk -> desk.deal(0, 9, 16, 1, 1), false);
        asThe512thCall("put", false, desk -> desk.put(3, 5, 1), true);
        asThe512thCall("put refused", false, desk -> desk.put(3, 6, 1), false);
        asThe512thCall("lose", false, desk -> desk.lose(3, 1), true);
        asThe512thCall("lose refused", false, desk -> desk.lose(3, 5), false);
        asThe512thCall("join", false, desk -> desk.join(0, 3, 4, 2), true);
        asThe512thCall("join refused", false, desk -> desk.join(0, 4, 4, 2), false);
        asThe512thCall("scale", false, desk -> desk.scale(3, 2, 1), true);
        asThe512thCall("scale refused", false, desk -> desk.scale(8, 2, 1), false);
        asThe512thCall("renew", false, desk -> desk.renew(3, 2), true);
        asThe512thCall("renew refused", false, desk -> desk.renew(-1, 2), false);
        asThe512thCall("share", false, desk -> desk.share(3, 4), 22);
        asThe512thCall("share that is lost", false, desk -> desk.share(3, 5), Desks.NO_ELEMENT);
        asThe512thCall("split", false, desk -> desk.split(3, 2), 4);
        asThe512thCall("split for another what", false, desk -> desk.split(3, 3), SplitDesk.NONE);
    }

    static void the512thCallIsAnsweredByWhatWasFound() {
        asThe512thCall("find", false, desk -> desk.find(4, 3), 0);
        asThe512thCall("find of too few", false, desk -> desk.find(3, 2), Desks.ARGUMENT);
        asThe512thCall("find of no such curve", false, desk -> desk.find(3, 1), Desks.STATE);
        asThe512thCall("at", true, desk -> desk.at(99), 20);
        asThe512thCall("at of none", false, desk -> desk.at(99), Desks.NO_ELEMENT);
        asThe512thCall("part", true, desk -> desk.part(0), 20);
        asThe512thCall("part of none", false, desk -> desk.part(0), Desks.NO_ELEMENT);
        asThe512thCall("part of no such k", true, desk -> desk.part(9), Desks.NO_ELEMENT);
        asThe512thCall("wrong", true, desk -> desk.wrong(2), true);
        asThe512thCall("wrong of one that was not", true, desk -> desk.wrong(4), false);
        asThe512thCall("wrong of none", false, desk -> desk.wrong(2), false);
        asThe512thCall("mend", true, desk -> desk.mend(), true);
        asThe512thCall("mend of none", false, desk -> desk.mend(), false);
    }
}
