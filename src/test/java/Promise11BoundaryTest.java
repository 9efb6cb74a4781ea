/** Promise 11, wrong: its boundary cases. */
public final class Promise11BoundaryTest {
    public static void main(String[] args) {
        Cases.runAll(Promise11BoundaryTest.class);
    }

    private static SplitDesk found(int e, Long... values) {
        SplitDesk desk = Desks.laid(0, 0, values);
        desk.find(0, e);
        return desk;
    }

    static void noneFoundInANewObject() {
        Desks.wrongPlaces("new", new SplitDesk(), "");
    }

    static void noneFoundBehindARefusedFind() {
        SplitDesk desk = Desks.laid(0, 0, 4L, 5L, 6L);
        Check.due("find(0, 1)", () -> desk.find(0, 1), Desks.STATE);
        Desks.wrongPlaces("no such curve", desk, "");
        Check.due("find(0, 2)", () -> desk.find(0, 2), Desks.ARGUMENT);
        Desks.wrongPlaces("too few", desk, "");
    }

    static void place1() {
        SplitDesk desk = found(1, 9L, 4L, 4L);
        Check.due("wrong(1)", () -> desk.wrong(1), true);
        Check.due("wrong(2)", () -> desk.wrong(2), false);
    }

    static void place0AndBelow() {
        SplitDesk desk = found(1, 9L, 4L, 4L);
        for (int place : new int[] {0, -1, -16, Desks.LEAST}) {
            Check.due("wrong(" + place + ")", () -> desk.wrong(place), false);
        }
    }

    static void place16() {
        SplitDesk desk = Desks.laid(0, 0, Desks.allThe(4L, 16));
        desk.put(0, 16, 9);
        desk.find(0, 1);
        Check.due("wrong(16)", () -> desk.wrong(16), true);
        Check.due("wrong(15)", () -> desk.wrong(15), false);
    }

    static void place17AndBeyond() {
        SplitDesk desk = Desks.laid(0, 0, Desks.allThe(4L, 16));
        desk.put(0, 16, 9);
        desk.find(0, 1);
        for (int place : new int[] {17, 18, 32, Desks.MOST}) {
            Check.due("wrong(" + place + ")", () -> desk.wrong(place), false);
        }
    }

    static void lastPlaceAndBehindIt() {
        SplitDesk desk = found(1, 4L, 4L, 9L);
        Check.due("wrong(3)", () -> desk.wrong(3), true);
        Check.due("wrong(4)", () -> desk.wrong(4), false);
    }

    static void lostThen() {
        SplitDesk desk = Desks.laid(0, 0, 4L, 9L, 4L, 4L);
        desk.lose(0, 2);
        desk.find(0, 1);
        Desks.wrongPlaces("lost", desk, "");
        desk.put(0, 2, 9);
        Desks.wrongPlaces("put again", desk, "");
    }

    static void lostSince() {
        SplitDesk desk = found(1, 4L, 9L, 4L);
        desk.lose(0, 2);
        Desks.wrongPlaces("lost since", desk, "2");
    }

    static void putRightSince() {
        SplitDesk desk = found(1, 4L, 9L, 4L);
        desk.put(0, 2, 4);
        Desks.wrongPlaces("right since", desk, "2");
    }

    static void putWrongSince() {
        SplitDesk desk = found(1, 4L, 9L, 4L);
        desk.put(0, 1, 9);
        Desks.wrongPlaces("another wrong since", desk, "2");
    }

    static void mendedSince() {
        SplitDesk desk = found(1, 4L, 9L, 4L);
        desk.mend();
        Desks.wrongPlaces("mended since", desk, "2");
    }

    static void placesThatCameSince() {
        SplitDesk desk = found(1, 4L, 9L, 4L);
        desk.deal(0, 0, 16, 5, 5);
        Desks.wrongPlaces("more places since", desk, "2");
    }

    static void placesThatWentSince() {
        SplitDesk desk = found(1, 4L, 4L, 9L);
        desk.deal(0, 0, 1, 5, 5);
        Desks.wrongPlaces("fewer places since", desk, "3");
        desk.join(0, 0, 7, 0);
        Desks.wrongPlaces("no places since", desk, "3");
    }

    static void noneWrong() {
        Desks.wrongPlaces("e 0", found(0, 4L, 4L, 4L), "");
        Desks.wrongPlaces("e 1", found(1, 4L, 4L, 4L), "");
    }

    static void sevenWrong() {
        SplitDesk desk = Desks.dealt(0, 1, 16, 5, 5);
        for (int place = 2; place <= 14; place += 2) {
            desk.put(0, place, 100 + place * place * place);
        }
        Check.due("find(0, 7)", () -> desk.find(0, 7), 7);
        Desks.wrongPlaces("seven", desk, "2 4 6 8 10 12 14");
    }

    static void refusedFindLeavesThem() {
        SplitDesk desk = found(1, 4L, 9L, 4L);
        desk.put(0, 1, 8);
        Check.due("find(0, 1)", () -> desk.find(0, 1), Desks.STATE);
        Desks.wrongPlaces("no such curve", desk, "2");
        desk.lose(0, 2);
        Check.due("find(0, 1)", () -> desk.find(0, 1), Desks.ARGUMENT);
        Desks.wrongPlaces("too few", desk, "2");
    }

    static void foundAgainForgetsTheOldOnes() {
        SplitDesk desk = Desks.laid(0, 0, Desks.allThe(4L, 16));
        desk.put(0, 1, 9);
        desk.put(0, 16, 9);
        desk.find(0, 2);
        Desks.wrongPlaces("at first", desk, "1 16");
        Desks.lay(desk, 1, 0, 4L, 4L, 4L, 8L);
        desk.find(1, 1);
        Desks.wrongPlaces("of one with fewer places", desk, "4");
        Desks.lay(desk, 2, 0, 4L);
        desk.find(2, 0);
        Desks.wrongPlaces("of one with one place", desk, "");
    }
}
