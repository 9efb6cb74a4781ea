/** Promise 8, find: its boundary cases. */
public final class Promise08BoundaryTest {
    private static final long P = Desks.P;

    public static void main(String[] args) {
        Cases.runAll(Promise08BoundaryTest.class);
    }

    /** Refused on a busy desk, where a curve was found before, and on one where none was. */
    private static void throwsArgument(int s, int e) {
        String call = "find(" + s + ", " + e + ")";
        Desks.changesNothing(call, Desks::busy, desk -> desk.find(s, e), Desks.ARGUMENT);
        Desks.changesNothing(call + " when none was found", () -> Desks.dealt(0, 0, 16, 3, 3),
            desk -> desk.find(s, e), Desks.ARGUMENT);
    }

    private static void finds(SplitDesk desk, int s, int e, Object due) {
        Check.due("find(" + s + ", " + e + ")", () -> desk.find(s, e), due);
    }

    /** Each place once, from both ends in turn. */
    private static int wrongPlace(int count, int n) {
        return count % 2 == 0 ? 1 + count / 2 : n - count / 2;
    }

    /** Wrong by so odd a number that no other curve goes through the wrong ones and a few of the right. */
    private static void makeWrong(SplitDesk desk, int count, int n) {
        int place = wrongPlace(count, n);
        desk.put(0, place, desk.share(0, place) + 1 + 1000003L * count * count);
    }

    static void firstSplit() {
        finds(Desks.dealt(0, 2, 5, 6, 6), 0, 1, 0);
    }

    static void lastSplit() {
        finds(Desks.dealt(7, 2, 5, 6, 6), 7, 1, 0);
    }

    static void splitBelow0IsRefused() {
        throwsArgument(-1, 0);
        throwsArgument(Desks.LEAST, 0);
    }

    static void splitAbove7IsRefused() {
        throwsArgument(8, 0);
        throwsArgument(Desks.MOST, 0);
    }

    static void e0() {
        SplitDesk desk = Desks.laid(0, 0, 5L, 5L, 5L);
        finds(desk, 0, 0, 0);
        desk.put(0, 2, 6);
        finds(desk, 0, 0, Desks.STATE);
    }

    static void eBelow0IsRefused() {
        throwsArgument(0, -1);
        throwsArgument(2, -1);
        throwsArgument(0, Desks.LEAST);
        throwsArgument(2, Desks.LEAST);
    }

    static void e7() {
        SplitDesk desk = Desks.dealt(0, 0, 15, 8, 8);
        finds(desk, 0, 7, 0);
        desk.deal(0, 1, 16, 8, 8);
        finds(desk, 0, 7, 0);
    }

    static void e8IsRefused() {
        throwsArgument(0, 8);
        throwsArgument(2, 8);
    }

    /** 2 e would wrap around to 0, or below it. */
    static void eSoGreatThatItsDoubleWrapsIsRefused() {
        throwsArgument(0, Desks.MOST);
        throwsArgument(0, 1 << 30);
        throwsArgument(0, (1 << 30) + 1);
        throwsArgument(2, Desks.MOST);
        throwsArgument(2, 1 << 30);
    }

    static void asManySharesAsItNeedsOfAllItsPlaces() {
        for (int t = 0; t <= 8; t++) {
            for (int e = 0; e <= 7 && t + 1 + 2 * e <= 16; e++) {
                SplitDesk desk = Desks.dealt(0, t, t + 1 + 2 * e, 9, 9);
                finds(desk, 0, e, 0);
                Desks.parts("degree " + t + ", e " + e, desk, Desks.drawnParts(9, t, 9));
            }
        }
    }

    static void oneFewerPlaceThanItNeedsIsRefused() {
        for (int t = 0; t <= 8; t++) {
            for (int e = 1; e <= 7 && t + 2 * e <= 16; e++) {
                SplitDesk desk = Desks.dealt(0, t, t + 2 * e, 9, 9);
                finds(desk, 0, e, Desks.ARGUMENT);
                Check.due("degree " + t + ", e " + e + ": at(0)", () -> desk.at(0), Desks.NO_ELEMENT);
            }
        }
    }

    static void oneFewerShareThanItNeedsIsRefused() {
        for (int t = 0; t <= 8; t++) {
            for (int e = 0; e <= 7 && t + 1 + 2 * e <= 16; e++) {
                SplitDesk desk = Desks.dealt(0, t, t + 1 + 2 * e, 9, 9);
                desk.lose(0, 1);
                finds(desk, 0, e, Desks.ARGUMENT);
                Check.due("degree " + t + ", e " + e + ": at(0)", () -> desk.at(0), Desks.NO_ELEMENT);
                desk.put(0, 1, 5);
                finds(desk, 0, e, e == 0 ? 0 : 1);
            }
        }
    }

    static void needsMoreThan16IsRefused() {
        for (int t = 0; t <= 8; t++) {
            for (int e = 0; e <= 7; e++) {
                SplitDesk desk = Desks.dealt(0, t, 16, 9, 9);
                finds(desk, 0, e, t + 1 + 2 * e <= 16 ? 0 : Desks.ARGUMENT);
            }
        }
    }

    static void degree0OfOneShare() {
        SplitDesk desk = Desks.laid(0, 0, P - 1);
        finds(desk, 0, 0, 0);
        Desks.parts("one share", desk, P - 1);
        finds(desk, 0, 1, Desks.ARGUMENT);
    }

    static void degree8OfNineShares() {
        SplitDesk desk = Desks.dealt(0, 8, 9, 9, 9);
        finds(desk, 0, 0, 0);
        Desks.parts("nine shares", desk, Desks.drawnParts(9, 8, 9));
        finds(desk, 0, 1, Desks.ARGUMENT);
    }

    /** Split 4 was never dealt. */
    static void splitOfNoSharesIsRefused() {
        throwsArgument(4, 0);
        throwsArgument(4, 7);
    }

    /** Split 3 has lost all. */
    static void allLostIsRefused() {
        throwsArgument(3, 0);
        throwsArgument(3, 7);
    }

    static void productOfFewerPlacesThanItsDegreeNeedsIsRefused() {
        SplitDesk desk = Desks.dealt(0, 4, 8, 3, 3);
        desk.join(1, 0, 0, 2);
        finds(desk, 1, 0, Desks.ARGUMENT);
        desk.deal(0, 4, 9, 3, 3);
        desk.join(1, 0, 0, 2);
        finds(desk, 1, 0, 0);
        Check.due("the product", () -> desk.at(0), 9);
    }

    /** Too few is told, even if those that are there lie on no curve of e wrong ones. */
    static void tooFewComesBeforeNoSuchCurve() {
        SplitDesk desk = Desks.laid(0, 0, 1L, 2L, 3L, 4L);
        finds(desk, 0, 1, Desks.STATE);
        finds(desk, 0, 2, Desks.ARGUMENT);
    }

    /** Through t + 1 shares there is always one, whatever they are. */
    static void justDegreeAnd1SharesAreNeverWrong() {
        for (int t = 0; t <= 8; t++) {
            SplitDesk desk = Desks.dealt(0, t, t + 1, 9, 9);
            for (int place = 1; place <= t + 1; place++) {
                desk.put(0, place, 31L * place * place - place);
            }
            finds(desk, 0, 0, 0);
            for (int i = 1; i <= t + 1; i++) {
                int place = i;
                Check.due("at(" + place + ")", () -> desk.at(place), 31L * place * place - place);
            }
        }
    }

    private static void findsUpToE(int t, int e, int n) {
        SplitDesk desk = Desks.dealt(0, t, n, 9, 9);
        for (int count = 0; count <= e; count++) {
            finds(desk, 0, e, count);
            Desks.parts("degree " + t + ", e " + e + ", n " + n, desk, Desks.drawnParts(9, t, 9));
            makeWrong(desk, count, n);
        }
    }

    static void asManyWrongAsEOfTheFewestShares() {
        for (int t = 0; t <= 8; t++) {
            for (int e = 0; e <= 7 && t + 1 + 2 * e <= 16; e++) {
                findsUpToE(t, e, t + 1 + 2 * e);
            }
        }
    }

    static void asManyWrongAsEOf16Shares() {
        for (int t = 0; t <= 8; t++) {
            for (int e = 0; e <= 7 && t + 1 + 2 * e <= 16; e++) {
                findsUpToE(t, e, 16);
            }
        }
    }

    private static void doesNotFindBeyondE(int t, int e, int n) {
        SplitDesk desk = Desks.dealt(0, t, n, 9, 9);
        for (int count = 0; count <= e; count++) {
            makeWrong(desk, count, n);
        }
        String when = "degree " + t + ", e " + e + ", n " + n;
        Check.due(when, () -> desk.find(0, e), Desks.STATE);
        Check.due(when + ": at(0)", () -> desk.at(0), Desks.NO_ELEMENT);
        Check.due(when + ": mend()", () -> desk.mend(), false);
    }

    /** Of t + 1 shares none is ever wrong, so that e is 1 at least. */
    static void oneMoreWrongThanEOfTheFewestShares() {
        for (int t = 0; t <= 8; t++) {
            for (int e = 1; e <= 7 && t + 1 + 2 * e <= 16; e++) {
                doesNotFindBeyondE(t, e, t + 1 + 2 * e);
            }
        }
    }

    static void oneMoreWrongThanEOf16Shares() {
        for (int t = 0; t <= 8; t++) {
            for (int e = 0; e <= 7 && t + 1 + 2 * e <= 16; e++) {
                doesNotFindBeyondE(t, e, 16);
            }
        }
    }

    /** Two of seven lie beside the curve that is 0, but one of seven beside (x - 2)(x - 3)(x - 4)(x - 5). */
    static void oneMoreWrongThanEButAnotherCurveHasNotMore() {
        SplitDesk desk = Desks.laid(0, 4, 24L, 0L, 0L, 0L, 0L, 0L, 120L);
        finds(desk, 0, 1, 1);
        Desks.parts("another curve", desk, 120, P - 154, 71, P - 14, 1);
        Desks.wrongPlaces("another curve", desk, "6");
    }

    static void wrongOnesOneAboveEAreFoundWithOneMore() {
        SplitDesk desk = Desks.dealt(0, 3, 12, 9, 9);
        desk.put(0, 1, 1);
        desk.put(0, 6, 1);
        desk.put(0, 12, 1);
        finds(desk, 0, 2, Desks.STATE);
        finds(desk, 0, 3, 3);
        finds(desk, 0, 4, 3);
        finds(desk, 0, 5, Desks.ARGUMENT);
    }

    static void wrongBy1OrP() {
        SplitDesk desk = Desks.laid(0, 0, 5L, 5L, 6L);
        finds(desk, 0, 1, 1);
        desk.put(0, 3, 5 + P);
        finds(desk, 0, 1, 0);
        desk.put(0, 3, 5 - P);
        finds(desk, 0, 1, 0);
        desk.put(0, 3, 4);
        finds(desk, 0, 1, 1);
    }

    static void wrongAtTheFirstAndTheLastPlace() {
        SplitDesk desk = Desks.dealt(0, 1, 16, 9, 9);
        desk.put(0, 1, 3);
        finds(desk, 0, 1, 1);
        Desks.wrongPlaces("the first", desk, "1");
        desk.put(0, 16, 3);
        finds(desk, 0, 2, 2);
        Desks.wrongPlaces("both", desk, "1 16");
    }

    /** The first places, or the last, that are as many as e. */
    static void wrongAllInARow() {
        SplitDesk desk = Desks.dealt(0, 1, 16, 9, 9);
        for (int place = 1; place <= 7; place++) {
            desk.put(0, place, 1000 + place * place * place);
        }
        finds(desk, 0, 7, 7);
        Desks.wrongPlaces("the first seven", desk, "1 2 3 4 5 6 7");
        desk.deal(0, 1, 16, 9, 9);
        for (int place = 10; place <= 16; place++) {
            desk.put(0, place, 1000 + place * place * place);
        }
        finds(desk, 0, 7, 7);
        Desks.wrongPlaces("the last seven", desk, "10 11 12 13 14 15 16");
        Desks.parts("the last seven", desk, Desks.drawnParts(9, 1, 9));
    }

    /** As many as are needed lie on either of two lines: neither is enough until one more does. */
    static void halfOnOneCurveAndHalfOnAnother() {
        SplitDesk desk = Desks.laid(0, 0, 5L, 5L, 6L, 6L);
        finds(desk, 0, 1, Desks.STATE);
        Desks.lay(desk, 0, 0, 5L, 5L, 6L, 6L, 6L);
        finds(desk, 0, 2, 2);
        Check.due("at(0)", () -> desk.at(0), 6);
        finds(desk, 0, 1, Desks.STATE);
    }

    static void lostIsNotWrong() {
        SplitDesk desk = Desks.laid(0, 0, 5L, null, null, 5L, 5L);
        finds(desk, 0, 0, 0);
        finds(desk, 0, 1, 0);
        finds(desk, 0, 2, Desks.ARGUMENT);
    }

    static void curveOfALowerDegree() {
        SplitDesk desk = Desks.laid(0, 8, Desks.allThe(0L, 16));
        finds(desk, 0, 3, 0);
        Desks.parts("nothing but 0", desk);
        desk.put(0, 4, 1);
        finds(desk, 0, 3, 1);
        Desks.parts("0, and one wrong", desk);
    }

    static void curveOfAHigherDegreeIsNone() {
        SplitDesk desk = Desks.dealt(0, 3, 16, 9, 9);
        desk.join(1, 0, 0, 2);
        Desks.lay(desk, 2, 5, Desks.allThe(0L, 16));
        for (int place = 1; place <= 16; place++) {
            desk.put(2, place, desk.share(1, place));
        }
        finds(desk, 1, 0, 0);
        finds(desk, 2, 0, Desks.STATE);
        finds(desk, 2, 5, Desks.STATE);
    }

    private static SplitDesk busyWithNoCurve() {
        SplitDesk desk = Desks.busy();
        Desks.lay(desk, 5, 0, 1L, 2L, 3L, 4L);
        return desk;
    }

    static void noSuchCurveLeavesWhatWasFound() {
        Desks.changesNothing("find(5, 0)", Promise08BoundaryTest::busyWithNoCurve,
            desk -> desk.find(5, 0), Desks.STATE);
        Desks.changesNothing("find(5, 1)", Promise08BoundaryTest::busyWithNoCurve,
            desk -> desk.find(5, 1), Desks.STATE);
    }

    static void noSuchCurveWhenNoneWasFoundLeavesNone() {
        Desks.changesNothing("find(5, 1)", () -> Desks.laid(5, 0, 1L, 2L, 3L, 4L),
            desk -> desk.find(5, 1), Desks.STATE);
    }

    /** Split 0 has 3 shares of degree 2, split 1 has 6 of degree 4. */
    static void tooFewLeavesWhatWasFound() {
        Desks.changesNothing("find(0, 7)", Desks::busy, desk -> desk.find(0, 7), Desks.ARGUMENT);
        Desks.changesNothing("find(0, 1)", Desks::busy, desk -> desk.find(0, 1), Desks.ARGUMENT);
        Desks.changesNothing("find(1, 1)", Desks::busy, desk -> desk.find(1, 1), Desks.ARGUMENT);
    }

    static void splitsStayAsTheyAre() {
        SplitDesk desk = Desks.laid(0, 1, 2L, 4L, 7L, 8L, null, 12L);
        finds(desk, 0, 1, 1);
        Desks.shape("found", desk, 0, 1, 6, 5);
        Desks.shares("found", desk, 0, 2L, 4L, 7L, 8L, null, 12L);
    }

    static void foundLastIsKept() {
        SplitDesk desk = Desks.busy();
        finds(desk, 0, 0, 0);
        Desks.parts("of split 0", desk, Desks.drawnParts(70, 2, 71));
        Desks.wrongPlaces("of split 0", desk, "");
        finds(desk, 7, 0, 0);
        Desks.parts("of split 7", desk, Desks.drawnParts(78, 8, 79));
        finds(desk, 0, 0, 0);
        Desks.parts("of split 0 again", desk, Desks.drawnParts(70, 2, 71));
    }

    /** Numbers at their greatest, in the shares and in the curve. */
    static void sharesOfPLess1() {
        SplitDesk desk = Desks.laid(0, 8, Desks.allThe(P - 1, 16));
        finds(desk, 0, 3, 0);
        Desks.parts("P - 1", desk, P - 1);
        desk.put(0, 2, 0);
        finds(desk, 0, 3, 1);
        Desks.parts("P - 1, and one of 0", desk, P - 1);
    }
}
