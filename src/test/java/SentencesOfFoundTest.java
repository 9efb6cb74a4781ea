import java.math.BigInteger;

/** Promises 8 to 12, word by word: the curve that is found. */
public final class SentencesOfFoundTest {
    public static void main(String[] args) {
        Sentences.runAll(SentencesOfFoundTest.class);
    }

    /** A split of 16 places of a number, so many of them put wrong; the wrong places come first. */
    private static int[] dealWithWrong(Run run, int s, int t, int wrong, long number, long seed) {
        run.deal(s, t, 16, number, seed);
        int[] places = run.anyOrder(16);
        for (int i = 0; i < wrong; i++) {
            run.put(s, places[i], run.model.share(s, places[i]) + 1 + run.pick(0, 1_000_000_000));
        }
        return places;
    }

    /** A curve is found for split s, of which nothing is wrong. */
    private static void findAny(Run run, int s) {
        int t = run.pick(0, 8);
        run.deal(s, t, run.pick(t + 1, 16), run.anyLong(), run.anyLong());
        Check.same("find", run.find(s, 0), 0);
    }

    @Sentence(in = "Promise 8", says = "FOUND for SPLIT s, with at most e (0 .. 7) wrong ones: how many are WRONG.")
    static void findTellsHowManyAreWrong(Run run) {
        int s = run.pick(0, 7);
        int t = run.pick(0, 8);
        int e = run.pick(0, (15 - t) / 2);
        int wrong = run.pick(0, e);
        long number = run.anyNumber();
        int[] places = dealWithWrong(run, s, t, wrong, number, run.anyLong());
        int lost = run.pick(0, 15 - t - 2 * e);
        for (int i = 0; i < lost; i++) {
            run.lose(s, places[15 - i]);
        }
        String before = run.look(s);
        Check.same("find", run.find(s, e), wrong);
        Check.same("the number", run.at(0), number);
        Check.same("the split behind it", run.look(s), before);
    }

    @Sentence(in = "Promise 8", says = {"IllegalArgumentException: there is no such SPLIT or e,",
        "(what was FOUND before stays, in both cases)."})
    static void findOfNoSuchSplitOrE(Run run) {
        int s = run.pick(0, 7);
        findAny(run, s);
        String before = run.lookAtFound();
        Check.same("find of no such split", run.find(run.noSplit(), run.pick(0, 7)), Desks.ARGUMENT);
        Check.same("find with no such e", run.find(s, run.outside(0, 7)), Desks.ARGUMENT);
        Check.same("what was found", run.lookAtFound(), before);
    }

    @Sentence(in = "Promise 8", says = {"or too few SHARES are there for it;",
        "(what was FOUND before stays, in both cases)."})
    static void findOfTooFewShares(Run run) {
        int other = run.pick(0, 6);
        findAny(run, other);
        int t = run.pick(0, 8);
        int e = run.pick(0, (15 - t) / 2);
        run.deal(7, t, 16, run.anyLong(), run.anyLong());
        int[] places = run.anyOrder(16);
        for (int i = t + 2 * e; i < 16; i++) {
            run.lose(7, places[i]);
        }
        String before = run.lookAtFound();
        Check.same("find of a share too few", run.find(7, e), Desks.ARGUMENT);
        Check.same("what was found", run.lookAtFound(), before);
        run.put(7, places[15], run.anyLong());
        Check.same("find of just enough", run.find(7, e).equals(Desks.ARGUMENT), false);
    }

    /** One share more is wrong than e, and so many are there that no other curve can go through enough. */
    @Sentence(in = "Promise 8", says = {"IllegalStateException: there is no such CURVE",
        "(what was FOUND before stays, in both cases)."})
    static void findOfNoSuchCurve(Run run) {
        int other = run.pick(0, 6);
        findAny(run, other);
        int t = run.pick(0, 8);
        int e = run.pick(0, (15 - t) / 2);
        boolean enough = 16 - e > t + e + 1;
        dealWithWrong(run, 7, t, enough ? e + 1 : e, run.anyLong(), run.anyLong());
        String before = run.lookAtFound();
        Check.same("find", run.find(7, e), enough ? Desks.STATE : e);
        if (enough) {
            Check.same("what was found", run.lookAtFound(), before);
            Check.same("mend", run.mend(), true);
            Check.same("the split of what was found", run.share(other, 1), run.at(1));
        }
    }

    @Sentence(in = "Promise 9", says = "What the CURVE that was FOUND last has at x (any number).")
    static void atTellsTheCurveFoundLast(Run run) {
        int t = run.pick(0, 8);
        long number = run.anyLong();
        long seed = run.anyLong();
        findAny(run, 1);
        int[] places = dealWithWrong(run, 2, t, (15 - t) / 2, number, seed);
        Check.same("find", run.find(2, (15 - t) / 2), (15 - t) / 2);
        run.deal(2, 0, 1, 9, 9);
        BigInteger[] c = Model.drawn(Model.big(number), t, seed);
        for (int i = 0; i < 4; i++) {
            long x = i == 0 ? 0 : i == 1 ? places[0] : run.anyLong();
            Check.same("at " + x, run.at(x), Model.value(c, Model.big(x)));
        }
    }

    /** Finds that throw find none; so no run of this case ever has one. */
    private static void findNone(Run run) {
        int s = run.pick(0, 7);
        run.deal(s, 0, 2, 5, 0);
        run.put(s, 2, 6);
        Check.same("find", run.find(s, run.pick(0, 1)).startsWith("throws"), true);
    }

    @Sentence(in = "Promise 9", says = "NoSuchElementException: none was FOUND yet.", from = Sentence.Start.NONE_FOUND)
    static void atWhenNoneWasFound(Run run) {
        Check.same("at", run.at(run.anyLong()), Desks.NO_ELEMENT);
        findNone(run);
        Check.same("at behind finds that throw", run.at(run.pick(0, 16)), Desks.NO_ELEMENT);
    }

    @Sentence(in = "Promise 10", says = "Its c k (0 for those above its DEGREE).")
    static void partTellsThePartsOfTheCurveFoundLast(Run run) {
        int t = run.pick(0, 8);
        long number = run.anyLong();
        long seed = run.anyLong();
        findAny(run, 3);
        dealWithWrong(run, 5, t, (15 - t) / 2, number, seed);
        Check.same("find", run.find(5, (15 - t) / 2), (15 - t) / 2);
        run.deal(5, 8, 9, 9, 9);
        long[] c = Desks.drawnParts(number, t, seed);
        for (int k = 0; k <= 8; k++) {
            Check.same("part " + k, run.part(k), k <= t ? c[k] : 0);
        }
    }

    @Sentence(in = "Promise 10", says = "NoSuchElementException: none was FOUND yet,", from = Sentence.Start.NONE_FOUND)
    static void partWhenNoneWasFound(Run run) {
        Check.same("part", run.part(run.pick(0, 8)), Desks.NO_ELEMENT);
        findNone(run);
        Check.same("part behind finds that throw", run.part(run.pick(0, 8)), Desks.NO_ELEMENT);
    }

    @Sentence(in = "Promise 10", says = "k is not 0 .. 8.")
    static void partOfNoSuchK(Run run) {
        findAny(run, run.pick(0, 7));
        String before = run.lookAtFound();
        Check.same("part -1", run.part(-1), Desks.NO_ELEMENT);
        Check.same("part 9", run.part(9), Desks.NO_ELEMENT);
        Check.same("any other part", run.part(run.outside(0, 8)), Desks.NO_ELEMENT);
        Check.same("what was found", run.lookAtFound(), before);
    }

    /** What becomes of the shares behind the find does not count. */
    @Sentence(in = "Promise 11", says = "Whether the SHARE at a place was WRONG then;")
    static void wrongTellsWhatWasWrongThen(Run run) {
        int s = run.pick(0, 7);
        int t = run.pick(0, 8);
        int wrong = run.pick(0, (15 - t) / 2);
        int[] places = dealWithWrong(run, s, t, wrong, run.anyLong(), run.anyLong());
        Check.same("find", run.find(s, (15 - t) / 2), wrong);
        switch (run.pick(0, 4)) {
            case 0 -> run.mend();
            case 1 -> run.lose(s, places[0]);
            case 2 -> run.put(s, places[15], run.anyLong());
            case 3 -> run.deal(s, 0, 1, 0, 0);
            default -> run.scale(s, 3, 4);
        }
        for (int i = 0; i < 16; i++) {
            Check.same("wrong at " + places[i], run.wrong(places[i]), i < wrong);
        }
    }

    @Sentence(in = "Promise 11", says = "false if none was FOUND,", from = Sentence.Start.NONE_FOUND)
    static void wrongWhenNoneWasFound(Run run) {
        Check.same("wrong", run.wrong(run.pick(1, 16)), false);
        findNone(run);
        for (int place = 0; place <= 17; place++) {
            Check.same("wrong at " + place + " behind finds that throw", run.wrong(place), false);
        }
    }

    /** The find before had wrong shares just where this one has lost ones, or none. */
    @Sentence(in = "Promise 11", says = "it was LOST, or there was none such.")
    static void wrongWhereItWasLostOrNone(Run run) {
        int[] places = dealWithWrong(run, 4, 1, 7, run.anyLong(), run.anyLong());
        Check.same("find", run.find(4, 7), 7);
        int n = run.pick(2, 16);
        run.deal(6, 0, n, 8, 0);
        int lost = run.pick(1, n);
        run.lose(6, lost);
        Check.same("find", run.find(6, 0), 0);
        run.put(6, lost, 9);
        Check.same("where it was lost", run.wrong(lost), false);
        run.deal(6, 0, 16, 8, 0);
        for (int i = 0; i < 7; i++) {
            run.put(6, places[i], 9);
            Check.same("where there was none, or no wrong one", run.wrong(places[i]), false);
        }
        Check.same("at no place at all", run.wrong(run.outside(1, 16)), false);
        Check.same("at place 0", run.wrong(0), false);
        Check.same("at place 17", run.wrong(17), false);
    }

    @Sentence(in = "Promise 12", says = {"The SPLIT for which a CURVE was FOUND last becomes what it has:",
        "all SHARES of its n places are there, as the CURVE tells"})
    static void mendMakesAllSharesRight(Run run) {
        int s = run.pick(0, 7);
        int t = run.pick(0, 8);
        long number = run.anyLong();
        long seed = run.anyLong();
        int wrong = run.pick(0, (14 - t) / 2);
        int[] places = dealWithWrong(run, s, t, wrong, number, seed);
        run.lose(s, places[15]);
        Check.same("find", run.find(s, (14 - t) / 2), wrong);
        run.put(s, places[14], run.anyLong());
        run.lose(s, places[13]);
        int other = (s + run.pick(1, 7)) & 7;
        String otherBefore = run.look(other);
        Check.same("mend", run.mend(), true);
        Long[] due = Desks.onDealt(t, 16, number, seed);
        for (int place = 1; place <= 16; place++) {
            Check.same("share " + place, run.share(s, place), due[place - 1]);
        }
        Check.same("how many are there", run.split(s, 2), 16);
        Check.same("another split", run.look(other), otherBefore);
    }

    @Sentence(in = "Promise 12", says = "(the SPLIT as it is now: its n; its DEGREE stays): true;")
    static void mendTakesTheSplitAsItIsNow(Run run) {
        int s = run.pick(0, 7);
        int t = run.pick(0, 8);
        long number = run.anyLong();
        long seed = run.anyLong();
        run.deal(s, t, run.pick(t + 1, 16), number, seed);
        Check.same("find", run.find(s, 0), 0);
        String found = run.lookAtFound();
        int degreeNow = run.pick(0, 8);
        int nNow = run.pick(degreeNow + 1, 16);
        run.deal(s, degreeNow, nNow, run.anyLong(), run.anyLong());
        run.lose(s, run.pick(1, nNow));
        Check.same("mend", run.mend(), true);
        Check.same("its degree", run.split(s, 0), degreeNow);
        Check.same("its n", run.split(s, 1), nNow);
        Check.same("how many are there", run.split(s, 2), nNow);
        Long[] due = Desks.onDealt(t, nNow, number, seed);
        for (int place = 1; place <= nNow; place++) {
            Check.same("share " + place, run.share(s, place), due[place - 1]);
        }
        Check.same("the share behind the last", run.share(s, nNow + 1), Desks.NO_ELEMENT);
        Check.same("what was found", run.lookAtFound(), found);
    }

    @Sentence(in = "Promise 12", says = "false if none was FOUND.", from = Sentence.Start.NONE_FOUND)
    static void mendWhenNoneWasFound(Run run) {
        findNone(run);
        int s = run.pick(0, 7);
        String before = run.look(s);
        Check.same("mend", run.mend(), false);
        Check.same("a split behind it", run.look(s), before);
        Check.same("mend once more", run.mend(), false);
    }
}
