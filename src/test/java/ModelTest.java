import java.util.Map;
import java.util.Random;
import java.util.TreeMap;

/** Long runs of calls, the same on SplitDesk and on Model: each answer must be the same. */
public final class ModelTest {
    private static final int RUNS = 250;
    /** With the at most 206 calls of compareAll, and what one step may make, a run stays within 512. */
    private static final int CALLS = 295;
    private static final long P = (1L << 61) - 1;
    private static final long[] EDGES = {
        0, 1, 2, -1, -2, P, P - 1, P + 1, -P, -P - 1, 2 * P, 2 * P + 1, 3 * P, 1L << 31, 1L << 61, 1L << 62,
        Long.MAX_VALUE, Long.MIN_VALUE, Integer.MIN_VALUE,
    };

    private final Random random;
    private final SplitDesk desk = new SplitDesk();
    private final Model model = new Model();
    private final String run;
    private final Map<String, Integer> finds;
    private int made = 0;

    private ModelTest(int run, Map<String, Integer> finds) {
        this.random = new Random(run);
        this.run = "run " + run + ": ";
        this.finds = finds;
    }

    public static void main(String[] args) {
        Map<String, Integer> finds = new TreeMap<>();
        for (int run = 0; run < RUNS; run++) {
            new ModelTest(run, finds).go();
        }
        System.out.println("find answered " + finds);
        for (String answer : new String[] {"0", "1", "2", "3", "4", "5", "6", "7",
            "throws.IllegalArgumentException", "throws.IllegalStateException"}) {
            Check.same("find ever: " + answer, finds.containsKey(answer), true);
        }
        Check.end();
    }

    private void go() {
        while (made < CALLS) {
            callAny();
        }
        compareAll();
    }

    private void both(String call, Check.Call got, Check.Call want) {
        made++;
        Check.same(run + call, Check.outcome(got), Check.outcome(want));
    }

    private boolean chance(int percent) {
        return random.nextInt(100) < percent;
    }

    private int within(int low, int high) {
        if (chance(2)) {
            return chance(50) ? low - 1 : high + 1;
        }
        if (chance(1)) {
            return chance(50) ? Integer.MIN_VALUE : Integer.MAX_VALUE;
        }
        return low + random.nextInt(high - low + 1);
    }

    private int anySplit() {
        return chance(70) ? within(0, 2) : within(0, 7);
    }

    private long anyLong() {
        int kind = random.nextInt(3);
        return kind == 0 ? EDGES[random.nextInt(EDGES.length)] : kind == 1 ? random.nextInt(20) : random.nextLong();
    }

    private void callAny() {
        int kind = random.nextInt(100);
        if (kind < 14) {
            callDeal();
        } else if (kind < 24) {
            callPut(anySplit());
        } else if (kind < 36) {
            callWrongSome(anySplit());
        } else if (kind < 42) {
            int s = anySplit();
            int place = within(1, 16);
            both("lose(" + s + ", " + place + ")", () -> desk.lose(s, place), () -> model.lose(s, place));
        } else if (kind < 52) {
            callJoin();
        } else if (kind < 57) {
            int s = anySplit();
            long a = anyLong();
            long b = anyLong();
            both("scale(" + s + ", " + a + ", " + b + ")", () -> desk.scale(s, a, b), () -> model.scale(s, a, b));
        } else if (kind < 62) {
            int s = anySplit();
            long seed = anyLong();
            both("renew(" + s + ", " + seed + ")", () -> desk.renew(s, seed), () -> model.renew(s, seed));
        } else if (kind < 82) {
            callFind();
        } else if (kind < 84) {
            both("mend()", desk::mend, model::mend);
        } else {
            callRead(kind);
        }
    }

    private void callDeal() {
        int s = anySplit();
        int t = chance(50) ? within(0, 2) : within(0, 8);
        int n = chance(10) ? within(1, 16) : chance(50) ? 16 : Math.min(16, Math.max(0, t) + 1 + random.nextInt(16));
        long number = anyLong();
        long seed = anyLong();
        both("deal(" + s + ", " + t + ", " + n + ", " + number + ", " + seed + ")",
            () -> desk.deal(s, t, n, number, seed), () -> model.deal(s, t, n, number, seed));
    }

    private void callPut(int s) {
        int place = within(1, 16);
        long v = anyLong();
        both("put(" + s + ", " + place + ", " + v + ")", () -> desk.put(s, place, v), () -> model.put(s, place, v));
    }

    /** Wrong shares that lie on a line, so that another curve may go through many of them. */
    private void callWrongSome(int s) {
        int count = random.nextInt(8);
        long rise = random.nextInt(3);
        for (int i = 0; i < count; i++) {
            int place = 1 + random.nextInt(16);
            long v = rise * place + 5;
            both("put(" + s + ", " + place + ", " + v + ")", () -> desk.put(s, place, v),
                () -> model.put(s, place, v));
        }
    }

    private void callJoin() {
        int to = anySplit();
        int a = chance(20) ? to : anySplit();
        int b = chance(20) ? a : anySplit();
        int how = within(0, 2);
        both("join(" + to + ", " + a + ", " + b + ", " + how + ")",
            () -> desk.join(to, a, b, how), () -> model.join(to, a, b, how));
    }

    private void callFind() {
        int s = anySplit();
        int most = (model.split(s, 2) - model.split(s, 0) - 1) / 2;
        int e = chance(70) ? Math.max(0, Math.min(7, most)) : within(0, 7);
        String want = Check.outcome(() -> model.find(s, e));
        both("find(" + s + ", " + e + ")", () -> desk.find(s, e), () -> model.find(s, e));
        finds.merge(want, 1, Integer::sum);
    }

    private void callRead(int kind) {
        int s = anySplit();
        int place = within(1, 16);
        if (kind < 88) {
            both("share(" + s + ", " + place + ")", () -> desk.share(s, place), () -> model.share(s, place));
        } else if (kind < 91) {
            int what = within(0, 2);
            both("split(" + s + ", " + what + ")", () -> desk.split(s, what), () -> model.split(s, what));
        } else if (kind < 94) {
            long x = anyLong();
            both("at(" + x + ")", () -> desk.at(x), () -> model.at(x));
        } else if (kind < 97) {
            int k = within(0, 8);
            both("part(" + k + ")", () -> desk.part(k), () -> model.part(k));
        } else {
            both("wrong(" + place + ")", () -> desk.wrong(place), () -> model.wrong(place));
        }
    }

    private void compareAll() {
        for (int split = 0; split < 8; split++) {
            int s = split;
            for (int i = 0; i <= 2; i++) {
                int what = i;
                both("split(" + s + ", " + what + ")", () -> desk.split(s, what), () -> model.split(s, what));
            }
            for (int i = 1; i <= 16; i++) {
                int place = i;
                both("share(" + s + ", " + place + ")", () -> desk.share(s, place), () -> model.share(s, place));
            }
        }
        for (int i = 0; i <= 17; i++) {
            int at = i;
            both("wrong(" + at + ")", () -> desk.wrong(at), () -> model.wrong(at));
            both("part(" + at + ")", () -> desk.part(at), () -> model.part(at));
            both("at(" + at + ")", () -> desk.at(at), () -> model.at(at));
        }
    }
}
