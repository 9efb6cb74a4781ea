import java.math.BigInteger;

/** "What it is" and "Terms", word by word. */
public final class SentencesOfTermsTest {
    private static final long P = Desks.P;
    private static final BigInteger BIG_P = BigInteger.valueOf(P);

    public static void main(String[] args) {
        Sentences.runAll(SentencesOfTermsTest.class);
    }

    private static BigInteger big(long v) {
        return BigInteger.valueOf(v);
    }

    /** Loses shares of a split of 16 places, any of them, until so many are there; these places come first. */
    private static int[] loseDownTo(Run run, int s, int count) {
        int[] places = run.anyOrder(16);
        for (int i = count; i < 16; i++) {
            run.lose(s, places[i]);
        }
        return places;
    }

    @Sentence(in = "What it is", says = "Numbers split into shares, so that some of them tell it")
    static void degreeAnd1SharesTellTheNumber(Run run) {
        int s = run.pick(0, 7);
        int t = run.pick(0, 8);
        long number = run.anyNumber();
        run.deal(s, t, 16, number, run.anyLong());
        loseDownTo(run, s, t + 1);
        Check.same("find of " + (t + 1) + " shares", run.find(s, 0), 0);
        Check.same("what they tell", run.at(0), number);
    }

    /** With one fewer than that, a further share can be such that any other number comes out. */
    @Sentence(in = "What it is", says = "and fewer tell nothing:")
    static void fewerSharesGoWithEveryNumber(Run run) {
        int s = run.pick(0, 7);
        int t = run.pick(1, 8);
        run.deal(s, t, 16, run.anyLong(), run.anyLong());
        int[] places = loseDownTo(run, s, t);
        Check.same("find of " + t + " shares", run.find(s, 0), Desks.ARGUMENT);
        BigInteger[] x = new BigInteger[t + 1];
        BigInteger[] y = new BigInteger[t + 1];
        for (int i = 0; i < t; i++) {
            x[i] = big(places[i]);
            y[i] = big(run.model.share(s, places[i]));
        }
        long other = run.anyNumber();
        x[t] = BigInteger.ZERO;
        y[t] = big(other);
        run.put(s, places[t], through(x, y, big(places[t])));
        Check.same("find with a share more", run.find(s, 0), 0);
        Check.same("the number that was meant by it", run.at(0), other);
    }

    /** What the curve through all points has at an x, by Lagrange's sum. */
    private static long through(BigInteger[] x, BigInteger[] y, BigInteger at) {
        BigInteger sum = BigInteger.ZERO;
        for (int i = 0; i < x.length; i++) {
            BigInteger summand = y[i];
            for (int j = 0; j < x.length; j++) {
                if (j != i) {
                    summand = summand.multiply(at.subtract(x[j])).multiply(x[i].subtract(x[j]).modInverse(BIG_P));
                }
            }
            sum = sum.add(summand);
        }
        return sum.mod(BIG_P).longValueExact();
    }

    @Sentence(in = "What it is", says = "sums and products of what is split, shares anew,"
        + " shares that are lost or wrong, and what is found in spite of them.")
    static void sumsAndProductsAreFoundInSpiteOfLostAndWrongShares(Run run) {
        long a = run.anyNumber();
        long b = run.anyNumber();
        run.deal(0, 2, 16, a, run.anyLong());
        run.deal(1, 3, 16, b, run.anyLong());
        run.renew(0, run.anyLong());
        run.renew(1, run.anyLong());
        run.join(2, 0, 1, 0);
        run.join(3, 0, 1, 2);
        for (int s = 2; s <= 3; s++) {
            int[] places = run.anyOrder(16);
            run.lose(s, places[0]);
            run.put(s, places[1], run.model.share(s, places[1]) + 1);
            run.put(s, places[2], run.model.share(s, places[2]) - 9);
        }
        Check.same("find of the sum", run.find(2, 5), 2);
        Check.same("the sum", run.at(0), big(a).add(big(b)).mod(BIG_P));
        Check.same("find of the product", run.find(3, 3), 2);
        Check.same("the product", run.at(0), big(a).multiply(big(b)).mod(BIG_P));
    }

    /** Sentences ends no run before its 512th call, so that this one too is compared. */
    @Sentence(in = "What it is", says = "An object is used for at most 512 calls after it has been made;"
        + " what later calls answer is free.", from = Sentence.Start.AS_MADE)
    static void all512CallsAreAnswered(Run run) {
        new AnyCalls(run).any();
    }

    private static void isANumber(String what, String answer) {
        boolean within = !answer.startsWith("throws") && Long.parseLong(answer) >= 0 && Long.parseLong(answer) < P;
        Check.same(what + " (" + answer + ") is 0 .. P - 1:", within, true);
    }

    @Sentence(in = "Terms", says = "NUMBERS are 0 .. P - 1, P = 2^61 - 1;")
    static void whatIsAnsweredIs0ToPLess1(Run run) {
        int s = run.pick(0, 7);
        run.deal(s, 1, 4, run.anyLong(), run.anyLong());
        run.put(s, 4, run.anyLong());
        isANumber("a share that was dealt", run.share(s, 1));
        isANumber("a share that was put", run.share(s, 4));
        run.scale(s, run.anyLong(), run.anyLong());
        isANumber("a share that was scaled", run.share(s, 1));
        run.renew(s, run.anyLong());
        isANumber("a share that was renewed", run.share(s, 3));
        run.lose(s, 4);
        Check.same("find", run.find(s, 0), 0);
        isANumber("a part", run.part(0));
        isANumber("a part", run.part(1));
        isANumber("what the curve has", run.at(run.anyLong()));
        for (int how = 0; how <= 2; how++) {
            run.join(s, s, s, how);
            isANumber("a share that was joined", run.share(s, 2));
            run.deal(s, 1, 4, run.anyLong(), run.anyLong());
        }
    }

    @Sentence(in = "Terms", says = "all is reckoned modulo P")
    static void allIsReckonedModuloP(Run run) {
        long v = run.anyNumber();
        long w = run.anyNumber();
        run.deal(0, 0, 1, v, 0);
        run.deal(1, 0, 1, w, 0);
        run.join(2, 0, 1, 0);
        Check.same(v + " + " + w, run.share(2, 1), big(v).add(big(w)).mod(BIG_P));
        run.join(2, 0, 1, 1);
        Check.same(v + " - " + w, run.share(2, 1), big(v).subtract(big(w)).mod(BIG_P));
        run.join(2, 0, 1, 2);
        Check.same(v + " * " + w, run.share(2, 1), big(v).multiply(big(w)).mod(BIG_P));
        run.scale(0, w, v);
        Check.same(v + " * " + w + " + " + v, run.share(0, 1), big(v).multiply(big(w)).add(big(v)).mod(BIG_P));
    }

    /** The number as a long from outside, as often P more or less as a long can hold. */
    private static long asAnyLong(Run run, long number) {
        long times = run.pick(-4, 3);
        BigInteger wide = big(number).add(big(times).multiply(BIG_P));
        return wide.bitLength() <= 63 ? wide.longValueExact() : number - P;
    }

    @Sentence(in = "Terms", says = "(longs from outside are taken so, too;")
    static void longsFromOutsideAreTakenModuloP(Run run) {
        long a = run.anyNumber();
        long b = run.anyNumber();
        run.deal(4, 0, 1, asAnyLong(run, a), 0);
        Check.same("the number of a deal", run.share(4, 1), a);
        run.put(4, 1, asAnyLong(run, b));
        Check.same("what was put", run.share(4, 1), b);
        run.scale(4, asAnyLong(run, a), 0);
        Check.same("what was scaled", run.share(4, 1), big(a).multiply(big(b)).mod(BIG_P));
        run.put(4, 1, a);
        run.scale(4, 1, asAnyLong(run, b));
        Check.same("what became more", run.share(4, 1), big(a).add(big(b)).mod(BIG_P));
        run.deal(4, 1, 2, a, b);
        run.find(4, 0);
        Check.same("at an x of any long", run.at(asAnyLong(run, b)), run.at(b));
    }

    /** The line through 0 at one place and 1 at another rises by 1 / a, a the places between. */
    @Sentence(in = "Terms", says = "1 / a is the number that gives 1 times a).")
    static void oneThroughATimesAIs1(Run run) {
        run.deal(6, 1, 16, 0, 0);
        int[] places = loseDownTo(run, 6, 2);
        run.put(6, places[0], 0);
        run.put(6, places[1], 1);
        Check.same("find", run.find(6, 0), 0);
        long rise = Long.parseLong(run.part(1));
        run.deal(6, 0, 1, rise, 0);
        run.scale(6, places[1] - places[0], 0);
        Check.same("1 / a times a", run.share(6, 1), 1);
    }

    @Sentence(in = "Terms", says = "A CURVE of a DEGREE t: c0 + c1 x + .. + ct x^t.")
    static void curveIsTheSumOfItsParts(Run run) {
        int s = run.pick(0, 7);
        int t = run.pick(0, 8);
        run.deal(s, t, run.pick(t + 1, 16), run.anyLong(), run.anyLong());
        run.find(s, 0);
        BigInteger[] c = new BigInteger[t + 1];
        for (int k = 0; k <= t; k++) {
            c[k] = new BigInteger(run.part(k));
        }
        long x = run.anyLong();
        Check.same("at " + x, run.at(x), sum(c, big(x)));
        int place = run.pick(1, t + 1);
        Check.same("the share at " + place, run.share(s, place), sum(c, big(place)));
    }

    private static BigInteger sum(BigInteger[] c, BigInteger x) {
        BigInteger sum = BigInteger.ZERO;
        for (int k = 0; k < c.length; k++) {
            sum = sum.add(c[k].multiply(x.pow(k)));
        }
        return sum.mod(BIG_P);
    }

    @Sentence(in = "Terms",
        says = "A SPLIT has a DEGREE (0 .. 8) and SHARES at places 1 .. n (n 1 .. 16), each there or LOST.")
    static void splitHasADegreeAndShares(Run run) {
        int s = run.pick(0, 7);
        int t = run.pick(0, 8);
        int n = run.pick(t + 1, 16);
        run.deal(s, t, n, 1, 1);
        Check.same("its degree", run.split(s, 0), t);
        Check.same("its n", run.split(s, 1), n);
        Check.same("a share at 0", run.share(s, 0), Desks.NO_ELEMENT);
        Check.same("a share behind n", run.share(s, n + 1), Desks.NO_ELEMENT);
        for (int place = 1; place <= n; place++) {
            isANumber("a share that is there", run.share(s, place));
            if (run.chance(50)) {
                run.lose(s, place);
                Check.same("a share that is lost", run.share(s, place), Desks.NO_ELEMENT);
            }
        }
    }

    @Sentence(in = "Terms", says = "There are 8 SPLITS, 0 .. 7, at first with DEGREE 0 and no SHARES (n is 0).",
        from = Sentence.Start.AS_MADE)
    static void eightSplitsAtFirstWithoutShares(Run run) {
        for (int s = 0; s <= 7; s++) {
            for (int what = 0; what <= 2; what++) {
                Check.same("split " + s + " at first: " + what, run.split(s, what), 0);
            }
            Check.same("a share of it", run.share(s, run.pick(1, 16)), Desks.NO_ELEMENT);
        }
        Check.same("a split below 0", run.split(-1, 0), -1);
        Check.same("a split above 7", run.split(8, 0), -1);
        Check.same("any other", run.split(run.noSplit(), 1), -1);
    }

    @Sentence(in = "Terms", says = {
        "A GENERATOR from a seed: its NEXT makes state = state * 6364136223846793005 + 1442695040888963407 (longs)",
        "and is (state without sign shifted right by 3) modulo P."})
    static void nextsAreThoseOfTheState(Run run) {
        long seed = run.anyLong();
        int s = run.pick(0, 7);
        run.deal(s, 8, 9, 0, seed);
        Check.same("find", run.find(s, 0), 0);
        long state = seed;
        for (int k = 1; k <= 8; k++) {
            state = state * 6364136223846793005L + 1442695040888963407L;
            long next = new BigInteger(Long.toUnsignedString(state)).shiftRight(3).mod(BIG_P).longValueExact();
            Check.same("NEXT " + k + " from " + seed, run.part(k), next);
        }
    }

    /** m shares of a degree are there, of which some are wrong, not more than the m allows; answers the places. */
    private static int[] dealWithWrong(Run run, int s, int t, int m, int wrong, long number, long seed) {
        run.deal(s, t, 16, number, seed);
        int[] places = loseDownTo(run, s, m);
        for (int i = 0; i < wrong; i++) {
            run.put(s, places[i], run.model.share(s, places[i]) + 1 + run.pick(0, 1_000_000_000));
        }
        return places;
    }

    @Sentence(in = "Terms", says = {
        "FOUND, with at most e wrong ones: of m SHARES that are there, of a SPLIT of DEGREE t,"
            + " if m is at least t + 1 + 2 e:",
        "the CURVE of at most that DEGREE that goes through at least m - e of them"})
    static void foundIsTheCurveThroughAllButE(Run run) {
        int s = run.pick(0, 7);
        int t = run.pick(0, 8);
        int e = run.pick(0, (15 - t) / 2);
        int m = run.pick(t + 1 + 2 * e, 16);
        long number = run.anyNumber();
        long seed = run.anyLong();
        dealWithWrong(run, s, t, m, e, number, seed);
        Check.same("find", run.find(s, e), e);
        long[] c = Desks.drawnParts(number, t, seed);
        for (int k = 0; k <= 8; k++) {
            Check.same("part " + k, run.part(k), k <= t ? c[k] : 0);
        }
        for (int place = 1; run.model.split(s, 2) > t + 2 * e; place++) {
            run.lose(s, place);
        }
        Check.same("find of a share too few", run.find(s, e), Desks.ARGUMENT);
    }

    /** Where a second curve goes through as many, there is none at all. */
    @Sentence(in = "Terms", says = "(there is at most one).")
    static void whateverEIsItIsTheSameCurve(Run run) {
        int s = run.pick(0, 7);
        int wrong = run.pick(0, 7);
        long number = run.anyNumber();
        run.deal(s, 0, 16, number, 0);
        int[] places = run.anyOrder(16);
        for (int i = 0; i < wrong; i++) {
            run.put(s, places[i], number + 1);
        }
        for (int e = 0; e <= 7; e++) {
            Check.same("find with " + e, run.find(s, e), e < wrong ? Desks.STATE : wrong);
            if (e >= wrong) {
                Check.same("the curve with " + e, run.at(run.anyLong()), number);
            }
        }
        for (int i = wrong; i < 8; i++) {
            run.put(s, places[i], number + 1);
        }
        Check.same("find of 8 and 8", run.find(s, 7), Desks.STATE);
    }

    @Sentence(in = "Terms", says = "The others are WRONG.")
    static void theOthersAreWrong(Run run) {
        int s = run.pick(0, 7);
        int t = run.pick(0, 8);
        int e = run.pick(0, (15 - t) / 2);
        int m = run.pick(t + 1 + 2 * e, 16);
        int wrong = run.pick(0, e);
        int[] places = dealWithWrong(run, s, t, m, wrong, 5, 6);
        Check.same("find", run.find(s, e), wrong);
        for (int i = 0; i < 16; i++) {
            Check.same("wrong at " + places[i], run.wrong(places[i]), i < wrong);
        }
    }
}
