/** Promise 1, a new object: the boundary cases of the state that the terms give. */
public final class Promise01BoundaryTest {
    public static void main(String[] args) {
        Cases.runAll(Promise01BoundaryTest.class);
    }

    static void noneIsMinus1() {
        Check.same("NONE", SplitDesk.NONE, -1);
    }

    static void eachSplitHasDegree0() {
        SplitDesk desk = new SplitDesk();
        for (int i = 0; i < 8; i++) {
            int s = i;
            Check.due("split(" + s + ", 0)", () -> desk.split(s, 0), 0);
        }
    }

    static void eachSplitHasNoPlaces() {
        SplitDesk desk = new SplitDesk();
        for (int i = 0; i < 8; i++) {
            int s = i;
            Check.due("split(" + s + ", 1)", () -> desk.split(s, 1), 0);
            Check.due("put(" + s + ", 1, 5)", () -> desk.put(s, 1, 5), false);
            Check.due("lose(" + s + ", 1)", () -> desk.lose(s, 1), false);
        }
    }

    static void eachSplitHasNoShares() {
        SplitDesk desk = new SplitDesk();
        for (int i = 0; i < 8; i++) {
            int s = i;
            Check.due("split(" + s + ", 2)", () -> desk.split(s, 2), 0);
            for (int place : new int[] {0, 1, 16, 17}) {
                Check.due("share(" + s + ", " + place + ")", () -> desk.share(s, place), Desks.NO_ELEMENT);
            }
            Check.due("find(" + s + ", 0)", () -> desk.find(s, 0), Desks.ARGUMENT);
        }
    }

    static void nothingWasFound() {
        SplitDesk desk = new SplitDesk();
        Check.due("at(0)", () -> desk.at(0), Desks.NO_ELEMENT);
        Check.due("part(0)", () -> desk.part(0), Desks.NO_ELEMENT);
        Desks.wrongPlaces("new", desk, "");
        Check.due("mend()", () -> desk.mend(), false);
    }

    static void oneObjectIsApartFromAnother() {
        SplitDesk first = Desks.busy();
        SplitDesk second = new SplitDesk();
        Check.same("a second object", Desks.seen(second), Desks.seen(new SplitDesk()));
        second.deal(2, 0, 1, 3, 3);
        second.find(2, 0);
        Check.same("the first object", Desks.seen(first), Desks.seen(Desks.busy()));
    }
}
