import java.math.BigInteger;
import java.util.NoSuchElementException;

/**
 * The document once more, with BigInteger and in other ways than SplitDesk: a curve is sought by trying the
 * curves through any t + 1 of the first t + 1 + e shares (one of these sets has no wrong share if there is one).
 */
final class Model {
    static final BigInteger P = BigInteger.ONE.shiftLeft(61).subtract(BigInteger.ONE);
    private static final BigInteger TWO_64 = BigInteger.ONE.shiftLeft(64);
    private static final BigInteger FACTOR = new BigInteger("6364136223846793005");
    private static final BigInteger MORE = new BigInteger("1442695040888963407");

    private final int[] degree = new int[8];
    private final int[] n = new int[8];
    private final BigInteger[][] shares = new BigInteger[8][17];
    private BigInteger[] found = null;
    private int foundFor = -1;
    private boolean[] wrong = new boolean[17];

    static BigInteger big(long v) {
        return BigInteger.valueOf(v).mod(P);
    }

    /** c0, and c1 .. ct as the generator gives them, its state held without sign. */
    static BigInteger[] drawn(BigInteger c0, int t, long seed) {
        BigInteger[] c = new BigInteger[t + 1];
        c[0] = c0;
        BigInteger state = BigInteger.valueOf(seed).mod(TWO_64);
        for (int k = 1; k <= t; k++) {
            state = state.multiply(FACTOR).add(MORE).mod(TWO_64);
            c[k] = state.shiftRight(3).mod(P);
        }
        return c;
    }

    static BigInteger value(BigInteger[] c, BigInteger x) {
        BigInteger sum = BigInteger.ZERO;
        for (int k = 0; k < c.length; k++) {
            sum = sum.add(c[k].multiply(x.pow(k)));
        }
        return sum.mod(P);
    }

    private static boolean isSplit(int s) {
        return 0 <= s && s <= 7;
    }

    private boolean isPlace(int s, int place) {
        return isSplit(s) && 1 <= place && place <= n[s];
    }

    private boolean isThere(int s, int place) {
        return isPlace(s, place) && shares[s][place] != null;
    }

    boolean deal(int s, int t, int newN, long number, long seed) {
        if (!isSplit(s) || t < 0 || t > 8 || newN < t + 1 || newN > 16) {
            return false;
        }
        degree[s] = t;
        n[s] = newN;
        BigInteger[] c = drawn(big(number), t, seed);
        for (int place = 1; place <= newN; place++) {
            shares[s][place] = value(c, big(place));
        }
        return true;
    }

    boolean put(int s, int place, long v) {
        if (!isPlace(s, place)) {
            return false;
        }
        shares[s][place] = big(v);
        return true;
    }

    boolean lose(int s, int place) {
        if (!isThere(s, place)) {
            return false;
        }
        shares[s][place] = null;
        return true;
    }

    boolean join(int to, int a, int b, int how) {
        if (!isSplit(to) || !isSplit(a) || !isSplit(b) || how < 0 || how > 2) {
            return false;
        }
        int newDegree = how == 2 ? degree[a] + degree[b] : Math.max(degree[a], degree[b]);
        if (newDegree > 8) {
            return false;
        }
        BigInteger[] joined = new BigInteger[17];
        int places = Math.min(n[a], n[b]);
        for (int place = 1; place <= places; place++) {
            BigInteger x = shares[a][place];
            BigInteger y = shares[b][place];
            if (x != null && y != null) {
                joined[place] = (how == 0 ? x.add(y) : how == 1 ? x.subtract(y) : x.multiply(y)).mod(P);
            }
        }
        degree[to] = newDegree;
        n[to] = places;
        shares[to] = joined;
        return true;
    }

    boolean scale(int s, long a, long b) {
        if (!isSplit(s)) {
            return false;
        }
        for (int place = 1; place <= n[s]; place++) {
            if (shares[s][place] != null) {
                shares[s][place] = shares[s][place].multiply(big(a)).add(big(b)).mod(P);
            }
        }
        return true;
    }

    boolean renew(int s, long seed) {
        if (!isSplit(s)) {
            return false;
        }
        BigInteger[] c = drawn(BigInteger.ZERO, degree[s], seed);
        for (int place = 1; place <= n[s]; place++) {
            if (shares[s][place] != null) {
                shares[s][place] = shares[s][place].add(value(c, big(place))).mod(P);
            }
        }
        return true;
    }

    int find(int s, int e) {
        if (!isSplit(s) || e < 0 || e > 7 || split(s, 2) < degree[s] + 1 + 2 * e) {
            throw new IllegalArgumentException();
        }
        int tried = degree[s] + 1 + e;
        int[] places = new int[tried];
        int count = 0;
        for (int place = 1; place <= n[s] && count < tried; place++) {
            if (shares[s][place] != null) {
                places[count++] = place;
            }
        }
        for (int set = 0; set < 1 << tried; set++) {
            if (Integer.bitCount(set) == degree[s] + 1) {
                BigInteger[] c = through(s, places, set);
                boolean[] misses = misses(s, c);
                if (size(misses) <= e) {
                    found = c;
                    foundFor = s;
                    wrong = misses;
                    return size(misses);
                }
            }
        }
        throw new IllegalStateException();
    }

    /** Lagrange's curve through the shares at the places of the set. */
    private BigInteger[] through(int s, int[] places, int set) {
        BigInteger[] sum = new BigInteger[degree[s] + 1];
        java.util.Arrays.fill(sum, BigInteger.ZERO);
        for (int i = 0; i < places.length; i++) {
            if ((set >> i & 1) == 0) {
                continue;
            }
            BigInteger[] basis = new BigInteger[degree[s] + 1];
            java.util.Arrays.fill(basis, BigInteger.ZERO);
            basis[0] = BigInteger.ONE;
            BigInteger under = BigInteger.ONE;
            for (int j = 0; j < places.length; j++) {
                if (j != i && (set >> j & 1) == 1) {
                    timesRoot(basis, big(places[j]));
                    under = under.multiply(big(places[i] - places[j])).mod(P);
                }
            }
            BigInteger weight = shares[s][places[i]].multiply(under.modInverse(P)).mod(P);
            for (int k = 0; k < sum.length; k++) {
                sum[k] = sum[k].add(basis[k].multiply(weight)).mod(P);
            }
        }
        return sum;
    }

    private static void timesRoot(BigInteger[] c, BigInteger root) {
        for (int k = c.length - 1; k >= 0; k--) {
            BigInteger below = k == 0 ? BigInteger.ZERO : c[k - 1];
            c[k] = below.subtract(c[k].multiply(root)).mod(P);
        }
    }

    private boolean[] misses(int s, BigInteger[] c) {
        boolean[] misses = new boolean[17];
        for (int place = 1; place <= n[s]; place++) {
            misses[place] = shares[s][place] != null && !shares[s][place].equals(value(c, big(place)));
        }
        return misses;
    }

    private static int size(boolean[] set) {
        int size = 0;
        for (boolean in : set) {
            size += in ? 1 : 0;
        }
        return size;
    }

    long at(long x) {
        if (found == null) {
            throw new NoSuchElementException();
        }
        return value(found, big(x)).longValueExact();
    }

    long part(int k) {
        if (found == null || k < 0 || k > 8) {
            throw new NoSuchElementException();
        }
        return k < found.length ? found[k].longValueExact() : 0;
    }

    boolean wrong(int place) {
        return 1 <= place && place <= 16 && wrong[place];
    }

    boolean mend() {
        if (found == null) {
            return false;
        }
        for (int place = 1; place <= n[foundFor]; place++) {
            shares[foundFor][place] = value(found, big(place));
        }
        return true;
    }

    long share(int s, int place) {
        if (!isThere(s, place)) {
            throw new NoSuchElementException();
        }
        return shares[s][place].longValueExact();
    }

    int split(int s, int what) {
        if (!isSplit(s) || what < 0 || what > 2) {
            return -1;
        }
        int there = 0;
        for (int place = 1; place <= n[s]; place++) {
            there += shares[s][place] != null ? 1 : 0;
        }
        return what == 0 ? degree[s] : what == 1 ? n[s] : there;
    }
}
