import java.util.Random;

/** A desk and the model beside it, for the 512 calls that the document gives an object: each answer is compared. */
final class Run {
    static final int CALLS = 512;

    /** Comes instead of a call beyond the last; it has no trace, as it is no fault. */
    static final class Spent extends RuntimeException {
        private static final long serialVersionUID = 1L;

        Spent() {
            super("the calls of this run are spent", null, false, false);
        }
    }

    private static final long[] EDGES = {
        0, 1, 2, -1, -2, Desks.P, Desks.P - 1, Desks.P + 1, -Desks.P, -Desks.P - 1, 2 * Desks.P, 2 * Desks.P + 1,
        3 * Desks.P, 1L << 31, 1L << 61, 1L << 62, Long.MAX_VALUE, Long.MIN_VALUE, Integer.MIN_VALUE,
    };

    final Model model = new Model();
    private final SplitDesk desk = new SplitDesk();
    private final String name;
    private final Random random;
    private int calls = 0;

    Run(String name, long seed) {
        this.name = name;
        this.random = new Random(seed);
    }

    int calls() {
        return calls;
    }

    private String made(String call, Check.Call got, Check.Call want) {
        if (calls == CALLS) {
            throw new Spent();
        }
        calls++;
        String answer = Check.outcome(got);
        Check.same(name + ", call " + calls + ", " + call, answer, Check.outcome(want));
        return answer;
    }

    String deal(int s, int t, int n, long number, long seed) {
        return made("deal(" + s + ", " + t + ", " + n + ", " + number + ", " + seed + ")",
            () -> desk.deal(s, t, n, number, seed), () -> model.deal(s, t, n, number, seed));
    }

    String put(int s, int place, long v) {
        return made("put(" + s + ", " + place + ", " + v + ")",
            () -> desk.put(s, place, v), () -> model.put(s, place, v));
    }

    String lose(int s, int place) {
        return made("lose(" + s + ", " + place + ")", () -> desk.lose(s, place), () -> model.lose(s, place));
    }

    String join(int to, int a, int b, int how) {
        return made("join(" + to + ", " + a + ", " + b + ", " + how + ")",
            () -> desk.join(to, a, b, how), () -> model.join(to, a, b, how));
    }

    String scale(int s, long a, long b) {
        return made("scale(" + s + ", " + a + ", " + b + ")",
            () -> desk.scale(s, a, b), () -> model.scale(s, a, b));
    }

    String renew(int s, long seed) {
        return made("renew(" + s + ", " + seed + ")", () -> desk.renew(s, seed), () -> model.renew(s, seed));
    }

    String find(int s, int e) {
        return made("find(" + s + ", " + e + ")", () -> desk.find(s, e), () -> model.find(s, e));
    }

    String at(long x) {
        return made("at(" + x + ")", () -> desk.at(x), () -> model.at(x));
    }

    String part(int k) {
        return made("part(" + k + ")", () -> desk.part(k), () -> model.part(k));
    }

    String wrong(int place) {
        return made("wrong(" + place + ")", () -> desk.wrong(place), () -> model.wrong(place));
    }

    String mend() {
        return made("mend()", desk::mend, model::mend);
    }

    String share(int s, int place) {
        return made("share(" + s + ", " + place + ")", () -> desk.share(s, place), () -> model.share(s, place));
    }

    String split(int s, int what) {
        return made("split(" + s + ", " + what + ")", () -> desk.split(s, what), () -> model.split(s, what));
    }

    /** What is seen of a split, as a text: three calls and one for each place. */
    String look(int s) {
        StringBuilder seen = new StringBuilder("split " + s + ":");
        for (int what = 0; what <= 2; what++) {
            seen.append(' ').append(split(s, what));
        }
        for (int place = 1; place <= model.split(s, 1); place++) {
            seen.append(", ").append(share(s, place));
        }
        return seen.toString();
    }

    /** What is seen of the curve that was found, as a text: 26 calls. */
    String lookAtFound() {
        StringBuilder seen = new StringBuilder("found:");
        for (int k = 0; k <= 8; k++) {
            seen.append(' ').append(part(k));
        }
        seen.append(", ").append(at(17)).append(", ");
        for (int place = 1; place <= 16; place++) {
            seen.append(wrong(place).equals("true") ? '1' : '0');
        }
        return seen.toString();
    }

    boolean chance(int percent) {
        return random.nextInt(100) < percent;
    }

    int pick(int low, int high) {
        return low + random.nextInt(high - low + 1);
    }

    int oneOf(int... values) {
        return values[random.nextInt(values.length)];
    }

    /** Below low or above high: just there, or at the end of all ints. */
    int outside(int low, int high) {
        return oneOf(low - 1, high + 1, low - pick(1, 40), high + pick(1, 40), Integer.MIN_VALUE, Integer.MAX_VALUE);
    }

    int noSplit() {
        return outside(0, 7);
    }

    long anyLong() {
        int kind = random.nextInt(3);
        return kind == 0 ? EDGES[random.nextInt(EDGES.length)] : kind == 1 ? random.nextInt(20) : random.nextLong();
    }

    /** A number from 0 to P - 1. */
    long anyNumber() {
        return Math.floorMod(anyLong(), Desks.P);
    }

    /** The places 1 .. n in any order. */
    int[] anyOrder(int n) {
        int[] places = new int[n];
        for (int i = 0; i < n; i++) {
            int j = random.nextInt(i + 1);
            places[i] = places[j];
            places[j] = i + 1;
        }
        return places;
    }
}
