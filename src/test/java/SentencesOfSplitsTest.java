import java.math.BigInteger;
import java.util.function.Supplier;

/** Promises 1 to 7, 13 and 14, word by word: the splits and their shares. */
public final class SentencesOfSplitsTest {
    private static final BigInteger P = BigInteger.valueOf(Desks.P);

    public static void main(String[] args) {
        Sentences.runAll(SentencesOfSplitsTest.class);
    }

    /** A split with some shares there and some lost. */
    private static void dealSome(Run run, int s) {
        int t = run.pick(0, 4);
        int n = run.pick(t + 1, 16);
        run.deal(s, t, n, run.anyLong(), run.anyLong());
        run.lose(s, run.pick(1, n));
        run.lose(s, run.pick(1, n));
    }

    /** Behind a refused call, a split and what was found are as before; the split is one that may be mistaken for s. */
    private static void refused(Run run, int s, Supplier<String> call) {
        String before = run.look(s & 7) + run.lookAtFound();
        Check.same("the call that is refused", call.get(), false);
        Check.same("what is seen behind it", run.look(s & 7) + run.lookAtFound(), before);
    }

    private static Long[] sharesOf(Run run, int s) {
        Long[] shares = new Long[run.model.split(s, 1)];
        for (int i = 0; i < shares.length; i++) {
            String answer = run.share(s, i + 1);
            shares[i] = answer.equals(Desks.NO_ELEMENT) ? null : Long.valueOf(answer);
        }
        return shares;
    }

    private static void hasShares(Run run, int s, Long[] due) {
        Check.same("n of split " + s, run.split(s, 1), due.length);
        for (int i = 0; i < due.length; i++) {
            Check.same("share " + (i + 1) + " of split " + s, run.share(s, i + 1),
                due[i] == null ? Desks.NO_ELEMENT : due[i]);
        }
        Check.same("the share behind the last", run.share(s, due.length + 1), Desks.NO_ELEMENT);
    }

    @Sentence(in = "Promise 1", says = "makes an object in the state that the terms give.",
        from = Sentence.Start.AS_MADE)
    static void newObject(Run run) {
        for (int s = 0; s <= 7; s++) {
            Check.same("what is seen of split " + s, run.look(s), "split " + s + ": 0 0 0");
            int place = run.pick(1, 16);
            Check.same("a place of it", run.put(s, place, 5), false);
            Check.same("a share of it", run.lose(s, place), false);
            Check.same("too few are there", run.find(s, 0), Desks.ARGUMENT);
        }
        Check.same("what the curve has", run.at(0), Desks.NO_ELEMENT);
        Check.same("its part", run.part(0), Desks.NO_ELEMENT);
        Check.same("a wrong share", run.wrong(1), false);
        Check.same("mend", run.mend(), false);
    }

    @Sentence(in = "Promise 2", says = {"SPLIT s becomes one of a number:",
        "SHARES at 1 .. n of the CURVE with c0 the number, c1 .. ct the NEXTs of the GENERATOR from seed: true;"})
    static void dealMakesSharesOfTheCurve(Run run) {
        int s = run.pick(0, 7);
        int t = run.pick(0, 8);
        int n = run.oneOf(t + 1, 16, run.pick(t + 1, 16));
        long number = run.anyLong();
        long seed = run.anyLong();
        Check.same("deal", run.deal(s, t, n, number, seed), true);
        Check.same("its degree", run.split(s, 0), t);
        Check.same("how many are there", run.split(s, 2), n);
        hasShares(run, s, Desks.onDealt(t, n, number, seed));
    }

    /** All but the split that is dealt. */
    @Sentence(in = "Promise 2", says = "SPLIT s becomes one of a number:")
    static void dealLeavesTheOthers(Run run) {
        int other = run.pick(0, 7);
        dealSome(run, other);
        String before = run.look(other) + run.lookAtFound();
        Check.same("deal", run.deal((other + run.pick(1, 7)) & 7, 1, 2, 3, 4), true);
        Check.same("what is seen of another and of what was found", run.look(other) + run.lookAtFound(), before);
    }

    @Sentence(in = "Promise 2", says = "false, changing nothing, if there is no such SPLIT,")
    static void dealOfNoSuchSplit(Run run) {
        int s = run.noSplit();
        dealSome(run, s & 7);
        refused(run, s, () -> run.deal(s, run.pick(0, 8), run.pick(9, 16), run.anyLong(), run.anyLong()));
    }

    @Sentence(in = "Promise 2", says = "t is not 0 .. 8,")
    static void dealOfNoSuchDegree(Run run) {
        int s = run.pick(0, 7);
        dealSome(run, s);
        refused(run, s, () -> run.deal(s, run.outside(0, 8), run.pick(1, 16), run.anyLong(), run.anyLong()));
    }

    @Sentence(in = "Promise 2", says = "n not t + 1 .. 16.")
    static void dealOfNoSuchN(Run run) {
        int s = run.pick(0, 7);
        int t = run.pick(0, 8);
        dealSome(run, s);
        refused(run, s, () -> run.deal(s, t, run.oneOf(run.outside(t + 1, 16), t, 17), run.anyLong(), run.anyLong()));
    }

    @Sentence(in = "Promise 3", says = "The SHARE of SPLIT s at a place becomes v (and is there): true;")
    static void putSetsAShare(Run run) {
        int s = run.pick(0, 7);
        dealSome(run, s);
        Long[] due = sharesOf(run, s);
        for (int i = 0; i < 3; i++) {
            int place = run.pick(1, due.length);
            long v = run.anyLong();
            Check.same("put", run.put(s, place, v), true);
            due[place - 1] = Model.big(v).longValueExact();
        }
        hasShares(run, s, due);
    }

    @Sentence(in = "Promise 3", says = "false, changing nothing, if there is no such SPLIT or place.")
    static void putAtNoSuchPlace(Run run) {
        boolean noSplit = run.chance(30);
        int s = noSplit ? run.noSplit() : run.pick(0, 7);
        dealSome(run, s & 7);
        int place = noSplit ? 1 : run.outside(1, run.model.split(s, 1));
        refused(run, s, () -> run.put(s, place, run.anyLong()));
    }

    @Sentence(in = "Promise 4", says = "That SHARE is LOST: true;")
    static void loseTakesAShare(Run run) {
        int s = run.pick(0, 7);
        int n = run.pick(1, 16);
        run.deal(s, 0, n, run.anyLong(), 0);
        Long[] due = sharesOf(run, s);
        int place = run.pick(1, n);
        Check.same("lose", run.lose(s, place), true);
        due[place - 1] = null;
        hasShares(run, s, due);
        Check.same("how many are there", run.split(s, 2), n - 1);
    }

    @Sentence(in = "Promise 4", says = "false if it was LOST, or there is none such.")
    static void loseOfNoSuchShare(Run run) {
        int s = run.pick(0, 7);
        int n = run.pick(1, 16);
        run.deal(s, 0, n, run.anyLong(), 0);
        int place = run.pick(1, n);
        run.lose(s, place);
        refused(run, s, () -> run.lose(s, place));
        Check.same("lose at no such place", run.lose(s, run.oneOf(0, n + 1, run.outside(1, n))), false);
        Check.same("lose of no such split", run.lose(run.noSplit(), place), false);
        Check.same("how many are there", run.split(s, 2), n - 1);
    }

    /** Joins two of any shape, into any, one of them too, and compares with what was there before. */
    private static void joins(Run run, int how) {
        int a = run.pick(0, 7);
        int b = run.chance(20) ? a : run.pick(0, 7);
        int to = run.chance(30) ? run.oneOf(a, b) : run.pick(0, 7);
        dealSome(run, a);
        if (b != a) {
            dealSome(run, b);
        }
        Long[] first = sharesOf(run, a);
        Long[] second = sharesOf(run, b);
        int degreeOfA = run.model.split(a, 0);
        int degreeOfB = run.model.split(b, 0);
        Check.same("join", run.join(to, a, b, how), true);
        Long[] due = new Long[Math.min(first.length, second.length)];
        for (int i = 0; i < due.length; i++) {
            due[i] = first[i] == null || second[i] == null ? null : joined(first[i], second[i], how);
        }
        hasShares(run, to, due);
        Check.same("its degree", run.split(to, 0),
            how == 2 ? degreeOfA + degreeOfB : Math.max(degreeOfA, degreeOfB));
    }

    private static long joined(long first, long second, int how) {
        BigInteger a = BigInteger.valueOf(first);
        BigInteger b = BigInteger.valueOf(second);
        return (how == 0 ? a.add(b) : how == 1 ? a.subtract(b) : a.multiply(b)).mod(P).longValueExact();
    }

    @Sentence(in = "Promise 5", says = {"SPLIT to becomes a and b added up (how 0),", "True;"})
    static void joinAddsUp(Run run) {
        joins(run, 0);
    }

    @Sentence(in = "Promise 5", says = {"b taken from a (1),", "True;"})
    static void joinTakesBFromA(Run run) {
        joins(run, 1);
    }

    @Sentence(in = "Promise 5", says = {"or their product (2),", "True;"})
    static void joinMakesTheProduct(Run run) {
        joins(run, 2);
    }

    @Sentence(in = "Promise 5", says = "place by place, where both have SHARES that are there (others LOST;")
    static void joinIsLostWhereOneIs(Run run) {
        int n = run.pick(3, 16);
        run.deal(1, 0, n, 4, 0);
        run.deal(2, 0, n, 5, 0);
        run.deal(6, 0, 16, 6, 0);
        int[] places = run.anyOrder(n);
        run.lose(1, places[0]);
        run.lose(2, places[1]);
        int to = run.oneOf(1, 2, 6);
        Check.same("join", run.join(to, 1, 2, run.pick(0, 2)), true);
        Check.same("where the first is lost", run.share(to, places[0]), Desks.NO_ELEMENT);
        Check.same("where the second is lost", run.share(to, places[1]), Desks.NO_ELEMENT);
        for (int i = 2; i < n; i++) {
            Check.same("where both are there", run.share(to, places[i]).startsWith("throws"), false);
        }
        Check.same("how many are there", run.split(to, 2), n - 2);
    }

    @Sentence(in = "Promise 5", says = "as many places as the one that has less):")
    static void joinHasThePlacesOfTheOneThatHasLess(Run run) {
        int n = run.pick(1, 16);
        int m = run.pick(1, 16);
        run.deal(1, 0, n, 4, 0);
        run.deal(2, 0, m, 5, 0);
        int to = run.oneOf(0, 1, 2);
        Check.same("join", run.join(to, 1, 2, run.pick(0, 2)), true);
        Check.same("its n", run.split(to, 1), Math.min(n, m));
        Check.same("its last share", run.share(to, Math.min(n, m)).startsWith("throws"), false);
        Check.same("the share behind it", run.share(to, Math.min(n, m) + 1), Desks.NO_ELEMENT);
        Check.same("a place behind it", run.put(to, Math.min(n, m) + 1, 1), false);
    }

    @Sentence(in = "Promise 5", says = {"the DEGREE is the greater one,", "of a product the sum."})
    static void joinHasTheGreaterDegreeOrTheSum(Run run) {
        int t = run.pick(0, 8);
        int u = run.pick(0, 8);
        run.deal(3, t, 16, run.anyLong(), run.anyLong());
        run.deal(4, u, 16, run.anyLong(), run.anyLong());
        for (int how = 0; how <= 1; how++) {
            Check.same("join", run.join(5, 3, 4, how), true);
            Check.same("the degree of how " + how, run.split(5, 0), Math.max(t, u));
        }
        Check.same("product", run.join(5, 3, 4, 2), t + u <= 8);
        Check.same("its degree", run.split(5, 0), t + u <= 8 ? t + u : Math.max(t, u));
    }

    @Sentence(in = "Promise 5", says = "false, changing nothing, if there are none such,")
    static void joinOfNoSuchSplits(Run run) {
        int which = run.pick(0, 2);
        int to = which == 0 ? run.noSplit() : run.pick(0, 7);
        int a = which == 1 ? run.noSplit() : run.pick(0, 7);
        int b = which == 2 ? run.noSplit() : run.pick(0, 7);
        dealSome(run, to & 7);
        refused(run, to, () -> run.join(to, a, b, run.pick(0, 1)));
    }

    @Sentence(in = "Promise 5", says = "how is another one,")
    static void joinOfAnotherHow(Run run) {
        int to = run.pick(0, 7);
        dealSome(run, to);
        refused(run, to, () -> run.join(to, run.pick(0, 7), run.pick(0, 7), run.outside(0, 2)));
    }

    @Sentence(in = "Promise 5", says = "or the DEGREE would be above 8.")
    static void joinOfADegreeAbove8(Run run) {
        int t = run.pick(1, 8);
        int u = run.pick(9 - t, 8);
        run.deal(0, t, run.pick(t + 1, 16), run.anyLong(), run.anyLong());
        run.deal(1, u, run.pick(u + 1, 16), run.anyLong(), run.anyLong());
        int to = run.oneOf(0, 1, 5);
        refused(run, to, () -> run.join(to, 0, 1, 2));
        Check.same("a product of degree 8 or less", run.join(to, 0, 0, 2), 2 * t <= 8);
    }

    @Sentence(in = "Promise 6", says = "Each SHARE of SPLIT s times a, and then b more: true;")
    static void scaleTimesAAndBMore(Run run) {
        int s = run.pick(0, 7);
        dealSome(run, s);
        run.put(s, 1, run.anyLong());
        Long[] due = sharesOf(run, s);
        int degree = run.model.split(s, 0);
        long a = run.anyLong();
        long b = run.anyLong();
        Check.same("scale", run.scale(s, a, b), true);
        for (int i = 0; i < due.length; i++) {
            if (due[i] != null) {
                BigInteger times = BigInteger.valueOf(due[i]).multiply(BigInteger.valueOf(a));
                due[i] = times.add(BigInteger.valueOf(b)).mod(P).longValueExact();
            }
        }
        hasShares(run, s, due);
        Check.same("its degree", run.split(s, 0), degree);
    }

    @Sentence(in = "Promise 6", says = "false if there is none such.")
    static void scaleOfNoSuchSplit(Run run) {
        int s = run.noSplit();
        dealSome(run, s & 7);
        refused(run, s, () -> run.scale(s, run.anyLong(), run.anyLong()));
    }

    @Sentence(in = "Promise 7", says = {"SPLIT s is split anew:",
        "to each SHARE that is there comes what a CURVE has at its place,"
            + " with c0 0 and c1 .. ct the NEXTs from seed: true;"})
    static void renewAddsACurveThatIs0At0(Run run) {
        int s = run.pick(0, 7);
        int t = run.pick(0, 8);
        int n = run.pick(t + 1, 16);
        run.deal(s, t, n, run.anyLong(), run.anyLong());
        run.lose(s, run.pick(1, n));
        run.put(s, run.pick(1, n), run.anyLong());
        Long[] due = sharesOf(run, s);
        long seed = run.anyLong();
        Long[] more = Desks.onDealt(t, n, 0, seed);
        Check.same("renew", run.renew(s, seed), true);
        for (int i = 0; i < n; i++) {
            due[i] = due[i] == null ? null : Long.valueOf(joined(due[i], more[i], 0));
        }
        hasShares(run, s, due);
        Check.same("its degree", run.split(s, 0), t);
    }

    @Sentence(in = "Promise 7", says = "SPLIT s is split anew:")
    static void renewKeepsTheNumber(Run run) {
        int t = run.pick(0, 8);
        long number = run.anyNumber();
        run.deal(2, t, t + 1, number, run.anyLong());
        String before = run.share(2, t + 1);
        Check.same("renew", run.renew(2, run.anyLong()), true);
        Check.same("its shares are others", run.share(2, t + 1).equals(before), t == 0);
        Check.same("find", run.find(2, 0), 0);
        Check.same("the number", run.at(0), number);
    }

    @Sentence(in = "Promise 7", says = "false if there is none such.")
    static void renewOfNoSuchSplit(Run run) {
        int s = run.noSplit();
        dealSome(run, s & 7);
        refused(run, s, () -> run.renew(s, run.anyLong()));
    }

    @Sentence(in = "Promise 13", says = "The SHARE of SPLIT s at a place.")
    static void shareIsWhatWasPutThere(Run run) {
        int n = run.pick(1, 16);
        for (int s = 0; s <= 7; s++) {
            run.deal(s, 0, n, 0, 0);
        }
        int place = run.pick(1, n);
        for (int s = 0; s <= 7; s++) {
            run.put(s, place, 100 + s);
        }
        for (int s = 0; s <= 7; s++) {
            Check.same("share of split " + s, run.share(s, place), 100 + s);
            Check.same("asked once more", run.share(s, place), 100 + s);
        }
    }

    @Sentence(in = "Promise 13", says = "NoSuchElementException: it is LOST, or there is none such.")
    static void shareThatIsLostOrNone(Run run) {
        int s = run.pick(0, 7);
        int n = run.pick(1, 16);
        run.deal(s, 0, n, run.anyLong(), 0);
        int place = run.pick(1, n);
        run.lose(s, place);
        String before = run.look(s) + run.lookAtFound();
        Check.same("one that is lost", run.share(s, place), Desks.NO_ELEMENT);
        Check.same("at no such place", run.share(s, run.oneOf(0, n + 1, run.outside(1, n))), Desks.NO_ELEMENT);
        Check.same("of no such split", run.share(run.noSplit(), place), Desks.NO_ELEMENT);
        Check.same("what is seen behind it", run.look(s) + run.lookAtFound(), before);
    }

    @Sentence(in = "Promise 14", says = "Of SPLIT s, what 0: its DEGREE, 1: n, 2: SHARES that are there.")
    static void splitTellsDegreeNAndShares(Run run) {
        int s = run.pick(0, 7);
        int t = run.pick(0, 8);
        int n = run.pick(t + 1, 16);
        run.deal(s, t, n, run.anyLong(), run.anyLong());
        int lost = run.pick(0, n);
        int[] places = run.anyOrder(n);
        for (int i = 0; i < lost; i++) {
            run.lose(s, places[i]);
        }
        Check.same("what 0", run.split(s, 0), t);
        Check.same("what 1", run.split(s, 1), n);
        Check.same("what 2", run.split(s, 2), n - lost);
        run.put(s, places[0], 1);
        Check.same("what 2 behind a put", run.split(s, 2), lost == 0 ? n : n - lost + 1);
    }

    @Sentence(in = "Promise 14", says = "NONE if there is none such, or for another what.")
    static void splitOfNoneSuchIsNone(Run run) {
        Check.same("of no such split", run.split(run.noSplit(), run.pick(0, 2)), SplitDesk.NONE);
        Check.same("for another what", run.split(run.pick(0, 7), run.outside(0, 2)), SplitDesk.NONE);
        Check.same("NONE", SplitDesk.NONE, -1);
    }
}
