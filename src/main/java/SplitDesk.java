import java.util.NoSuchElementException;

/** Numbers modulo 2^61 - 1 split into shares, and what is found of them when some are lost or wrong. */
public final class SplitDesk {
    public static final int NONE = -1;

    private static final long P = 2305843009213693951L;
    private static final int SPLITS = 8;
    private static final int MOST_DEGREE = 8;
    private static final int MOST_PLACES = 16;
    private static final int MOST_WRONG = 7;

    private static final int ADDED = 0;
    private static final int TAKEN = 1;
    private static final int PRODUCT = 2;

    private static final int ASK_DEGREE = 0;
    private static final int ASK_PLACES = 1;
    private static final int ASK_THERE = 2;

    private final Split[] splits = new Split[SPLITS];
    private final Curve drawn = new Curve();
    private final Finder finder = new Finder();
    private final Curve found = new Curve();
    private final boolean[] foundWrong = new boolean[MOST_PLACES + 1];
    private int foundFor = NONE;

    public SplitDesk() {
        for (int s = 0; s < SPLITS; s++) {
            splits[s] = new Split();
        }
    }

    public boolean deal(int s, int t, int n, long number, long seed) {
        Split split = splitOrNull(s);
        if (split == null || t < 0 || t > MOST_DEGREE || n < t + 1 || n > MOST_PLACES) {
            return false;
        }
        drawn.draw(Numbers.of(number), t, seed);
        split.shape(t, n);
        split.fill(drawn);
        return true;
    }

    public boolean put(int s, int place, long v) {
        Split split = splitOrNull(s);
        if (split == null || !split.hasPlace(place)) {
            return false;
        }
        split.keep(place, Numbers.of(v));
        return true;
    }

    public boolean lose(int s, int place) {
        Split split = splitOrNull(s);
        if (split == null || !split.hasShare(place)) {
            return false;
        }
        split.drop(place);
        return true;
    }

    public boolean join(int to, int a, int b, int how) {
        Split target = splitOrNull(to);
        Split first = splitOrNull(a);
        Split second = splitOrNull(b);
        if (target == null || first == null || second == null || how < ADDED || how > PRODUCT) {
            return false;
        }
        int degree = how == PRODUCT ? first.degree + second.degree : Math.max(first.degree, second.degree);
        if (degree > MOST_DEGREE) {
            return false;
        }
        int places = Math.min(first.places, second.places);
        // The target may be one of the two: its shape changes only after the last share was read.
        for (int place = 1; place <= places; place++) {
            if (first.hasShare(place) && second.hasShare(place)) {
                target.keep(place, joined(first.values[place], second.values[place], how));
            } else {
                target.drop(place);
            }
        }
        target.shape(degree, places);
        return true;
    }

    public boolean scale(int s, long a, long b) {
        Split split = splitOrNull(s);
        if (split == null) {
            return false;
        }
        long factor = Numbers.of(a);
        long more = Numbers.of(b);
        for (int place = 1; place <= split.places; place++) {
            if (split.hasShare(place)) {
                split.keep(place, Numbers.plus(Numbers.times(split.values[place], factor), more));
            }
        }
        return true;
    }

    public boolean renew(int s, long seed) {
        Split split = splitOrNull(s);
        if (split == null) {
            return false;
        }
        drawn.draw(0, split.degree, seed);
        for (int place = 1; place <= split.places; place++) {
            if (split.hasShare(place)) {
                split.keep(place, Numbers.plus(split.values[place], drawn.valueAt(place)));
            }
        }
        return true;
    }

    public int find(int s, int e) throws IllegalArgumentException, IllegalStateException {
        Split split = splitOrNull(s);
        if (split == null || e < 0 || e > MOST_WRONG) {
            throw new IllegalArgumentException("no such split, or no such number of wrong ones");
        }
        if (split.countThere() < Finder.sharesNeeded(split.degree, e)) {
            throw new IllegalArgumentException("too few shares are there");
        }
        finder.seek(split, e);
        int missed = split.countMissedBy(finder.candidate);
        if (missed > e) {
            throw new IllegalStateException("no such curve");
        }
        keepFound(s, split);
        return missed;
    }

    public long at(long x) throws NoSuchElementException {
        if (foundFor == NONE) {
            throw new NoSuchElementException("no curve was found yet");
        }
        return found.valueAt(Numbers.of(x));
    }

    public long part(int k) throws NoSuchElementException {
        if (foundFor == NONE || k < 0 || k > MOST_DEGREE) {
            throw new NoSuchElementException("no curve was found yet, or it has no such part");
        }
        return found.parts[k];
    }

    public boolean wrong(int place) {
        return place >= 1 && place <= MOST_PLACES && foundWrong[place];
    }

    public boolean mend() {
        Split split = splitOrNull(foundFor);
        if (split == null) {
            return false;
        }
        split.fill(found);
        return true;
    }

    public long share(int s, int place) throws NoSuchElementException {
        Split split = splitOrNull(s);
        if (split == null || !split.hasShare(place)) {
            throw new NoSuchElementException("no such share is there");
        }
        return split.values[place];
    }

    public int split(int s, int what) {
        Split split = splitOrNull(s);
        if (split == null) {
            return NONE;
        }
        switch (what) {
            case ASK_DEGREE:
                return split.degree;
            case ASK_PLACES:
                return split.places;
            case ASK_THERE:
                return split.countThere();
            default:
                return NONE;
        }
    }

    private Split splitOrNull(int s) {
        return s >= 0 && s < SPLITS ? splits[s] : null;
    }

    private static long joined(long a, long b, int how) {
        switch (how) {
            case ADDED:
                return Numbers.plus(a, b);
            case TAKEN:
                return Numbers.minus(a, b);
            default:
                return Numbers.times(a, b);
        }
    }

    private void keepFound(int s, Split split) {
        foundFor = s;
        found.copyFrom(finder.candidate);
        for (int place = 1; place <= MOST_PLACES; place++) {
            foundWrong[place] = split.isMissedBy(found, place);
        }
    }

    /** The arithmetic modulo P; all but what comes into of() is 0 .. P - 1 already. */
    private static final class Numbers {
        private static final int BITS = 61;
        private static final int LOW_BITS = 31;
        private static final long LOW_MASK = (1L << LOW_BITS) - 1;
        private static final int WRAP_BITS = BITS - LOW_BITS;
        private static final long WRAP_MASK = (1L << WRAP_BITS) - 1;
        /** Euclid's steps for numbers below 2^61 are fewer than 90, as Fibonacci's numbers tell. */
        private static final int MOST_STEPS = 100;

        static long of(long outside) {
            return Math.floorMod(outside, P);
        }

        static long plus(long a, long b) {
            long sum = a + b;
            return sum >= P ? sum - P : sum;
        }

        static long minus(long a, long b) {
            return a >= b ? a - b : a - b + P;
        }

        /**
         * The product from halves of 30 and 31 bits, as a long can't hold it whole. 2^61 counts as 1, so the
         * high product, at 2^62, counts twice, and what the middle has above 2^30, at 2^61, counts once. The
         * four summands are together below 2^63.
         */
        static long times(long a, long b) {
            long aHigh = a >>> LOW_BITS;
            long aLow = a & LOW_MASK;
            long bHigh = b >>> LOW_BITS;
            long bLow = b & LOW_MASK;
            long middle = aHigh * bLow + aLow * bHigh;
            long wrapped = (middle >>> WRAP_BITS) + ((middle & WRAP_MASK) << LOW_BITS);
            return (2 * aHigh * bHigh + wrapped + aLow * bLow) % P;
        }

        /** 1 / a by Euclid's algorithm: each rest stays its factor times a, modulo P. a is not 0. */
        static long inverse(long a) {
            long rest = P;
            long factor = 0;
            long nextRest = a;
            long nextFactor = 1;
            for (int step = 0; step < MOST_STEPS && nextRest != 0; step++) {
                long quotient = rest / nextRest;
                long newRest = rest - quotient * nextRest;
                long newFactor = factor - quotient * nextFactor;
                rest = nextRest;
                factor = nextFactor;
                nextRest = newRest;
                nextFactor = newFactor;
            }
            return of(factor);
        }
    }

    /** A curve of a degree of at most 8; the parts above its degree are 0. */
    private static final class Curve {
        private static final long STATE_FACTOR = 6364136223846793005L;
        private static final long STATE_MORE = 1442695040888963407L;
        private static final int STATE_SHIFT = 3;

        final long[] parts = new long[MOST_DEGREE + 1];

        /** Takes the seed as it is, not modulo P: the generator's state is a long. */
        void draw(long constant, int degree, long seed) {
            long state = seed;
            parts[0] = constant;
            for (int k = 1; k <= MOST_DEGREE; k++) {
                state = state * STATE_FACTOR + STATE_MORE;
                parts[k] = k <= degree ? (state >>> STATE_SHIFT) % P : 0;
            }
        }

        long valueAt(long x) {
            long value = 0;
            for (int k = MOST_DEGREE; k >= 0; k--) {
                value = Numbers.plus(Numbers.times(value, x), parts[k]);
            }
            return value;
        }

        void copyFrom(Curve other) {
            System.arraycopy(other.parts, 0, parts, 0, parts.length);
        }
    }

    /** A split's degree and its shares; index 0 of the rows is not used. */
    private static final class Split {
        final long[] values = new long[MOST_PLACES + 1];
        final boolean[] there = new boolean[MOST_PLACES + 1];
        int degree = 0;
        int places = 0;

        void shape(int newDegree, int newPlaces) {
            degree = newDegree;
            places = newPlaces;
        }

        boolean hasPlace(int place) {
            return place >= 1 && place <= places;
        }

        boolean hasShare(int place) {
            return hasPlace(place) && there[place];
        }

        void keep(int place, long value) {
            values[place] = value;
            there[place] = true;
        }

        void drop(int place) {
            there[place] = false;
        }

        void fill(Curve curve) {
            for (int place = 1; place <= places; place++) {
                keep(place, curve.valueAt(place));
            }
        }

        int countThere() {
            int count = 0;
            for (int place = 1; place <= places; place++) {
                if (there[place]) {
                    count++;
                }
            }
            return count;
        }

        boolean isMissedBy(Curve curve, int place) {
            return hasShare(place) && values[place] != curve.valueAt(place);
        }

        int countMissedBy(Curve curve) {
            int count = 0;
            for (int place = 1; place <= places; place++) {
                if (isMissedBy(curve, place)) {
                    count++;
                }
            }
            return count;
        }
    }

    /**
     * Seeks the curve f by the way of Berlekamp and Welch. Let E be a curve of degree e, its highest part 1,
     * that is 0 at every wrong place, and Q = f E. Then Q(x) = value E(x) at every place, wrong or not: equations
     * in the parts of Q and E alone, and whatever solves them has Q / E = f. t + 1 + 2 e shares suffice: if f
     * misses at most e of all, it misses at most e of these. If there is no such curve, the candidate is one
     * that misses more than e: whoever asks must count them.
     */
    private static final class Finder {
        final Curve candidate = new Curve();
        private final long[][] rows = new long[MOST_PLACES][MOST_PLACES + 1];
        private final boolean[] rowUsed = new boolean[MOST_PLACES];
        private final long[] solution = new long[MOST_PLACES];
        private final int[] rowOfUnknown = new int[MOST_PLACES];

        static int sharesNeeded(int degree, int e) {
            return degree + 1 + 2 * e;
        }

        /** The split has the shares that are needed, so that they are at most 16. */
        void seek(Split split, int e) {
            int unknowns = sharesNeeded(split.degree, e);
            writeEquations(split, e, unknowns);
            solveEquations(unknowns);
            divide(split.degree, e);
        }

        private void writeEquations(Split split, int e, int unknowns) {
            int row = 0;
            for (int place = 1; place <= split.places && row < unknowns; place++) {
                if (split.hasShare(place)) {
                    writeEquation(rows[row], place, split.values[place], split.degree + e, e);
                    row++;
                }
            }
        }

        /** The unknowns: Q's parts 0 .. top, then E's 0 .. e - 1; behind them what they shall give. */
        private static void writeEquation(long[] row, int place, long value, int top, int e) {
            long power = 1;
            for (int k = 0; k <= top; k++) {
                row[k] = power;
                if (k < e) {
                    row[top + 1 + k] = Numbers.minus(0, Numbers.times(value, power));
                } else if (k == e) {
                    row[top + 1 + e] = Numbers.times(value, power);
                }
                power = Numbers.times(power, place);
            }
        }

        /** An unknown that the equations leave free, as if fewer than e are wrong, becomes 0. */
        private void solveEquations(int unknowns) {
            for (int row = 0; row < unknowns; row++) {
                rowUsed[row] = false;
            }
            for (int unknown = 0; unknown < unknowns; unknown++) {
                int row = unusedRowWith(unknown, unknowns);
                rowOfUnknown[unknown] = row;
                if (row != NONE) {
                    rowUsed[row] = true;
                    makeOne(rows[row], unknown, unknowns);
                    clearElsewhere(row, unknown, unknowns);
                }
            }
            for (int unknown = 0; unknown < unknowns; unknown++) {
                int row = rowOfUnknown[unknown];
                solution[unknown] = row == NONE ? 0 : rows[row][unknowns];
            }
        }

        private int unusedRowWith(int unknown, int unknowns) {
            for (int row = 0; row < unknowns; row++) {
                if (!rowUsed[row] && rows[row][unknown] != 0) {
                    return row;
                }
            }
            return NONE;
        }

        private static void makeOne(long[] row, int unknown, int unknowns) {
            long factor = Numbers.inverse(row[unknown]);
            for (int k = unknown; k <= unknowns; k++) {
                row[k] = Numbers.times(row[k], factor);
            }
        }

        private void clearElsewhere(int from, int unknown, int unknowns) {
            for (int row = 0; row < unknowns; row++) {
                if (row != from && rows[row][unknown] != 0) {
                    takeTimes(rows[row], rows[from], unknown, unknowns);
                }
            }
        }

        /** What stands before the unknown in a row that clears is 0, so the work begins there. */
        private static void takeTimes(long[] row, long[] from, int unknown, int unknowns) {
            long factor = row[unknown];
            for (int k = unknown; k <= unknowns; k++) {
                row[k] = Numbers.minus(row[k], Numbers.times(factor, from[k]));
            }
        }

        /** Q / E into the candidate; E's highest part is 1, so that nothing is to be divided by. */
        private void divide(int degree, int e) {
            int firstOfE = degree + e + 1;
            for (int k = MOST_DEGREE; k > degree; k--) {
                candidate.parts[k] = 0;
            }
            for (int k = degree; k >= 0; k--) {
                long part = solution[k + e];
                candidate.parts[k] = part;
                for (int j = 0; j < e; j++) {
                    solution[k + j] = Numbers.minus(solution[k + j], Numbers.times(part, solution[firstOfE + j]));
                }
            }
        }
    }
}
