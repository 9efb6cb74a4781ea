import java.math.BigInteger;

/** Promises 1 to 7, 13 and 14: the splits and their shares. */
public final class SplitsTest {
    private static final long P = Desks.P;

    public static void main(String[] args) {
        promise1NewObject();
        promise2Deal();
        promise2DealRefused();
        promise2DealAgain();
        promise3Put();
        promise4Lose();
        promise5Join();
        promise5JoinOntoItself();
        promise5JoinRefused();
        promise6Scale();
        promise7Renew();
        promise13Share();
        promise14Split();
        Check.end();
    }

    private static void promise1NewObject() {
        SplitDesk desk = new SplitDesk();
        Check.same("NONE", SplitDesk.NONE, -1);
        for (int s = 0; s < 8; s++) {
            int split = s;
            Desks.shape("new", desk, s, 0, 0, 0);
            Desks.shares("new", desk, s);
            Check.due("new: put", () -> desk.put(split, 1, 5), false);
            Check.due("new: lose", () -> desk.lose(split, 1), false);
            Check.due("new: find", () -> desk.find(split, 0), "throws.IllegalArgumentException");
        }
        Check.due("new: at", () -> desk.at(0), Desks.NO_ELEMENT);
        Check.due("new: part", () -> desk.part(0), Desks.NO_ELEMENT);
        Check.due("new: wrong", () -> desk.wrong(1), false);
        Check.due("new: mend", () -> desk.mend(), false);
        SplitDesk other = new SplitDesk();
        other.deal(0, 0, 1, 5, 0);
        Desks.shape("another object was dealt", desk, 0, 0, 0, 0);
    }

    private static void promise2Deal() {
        long[] numbers = {0, 12345, -1, P, P - 1, P + 3, 2 * P + 1, Long.MAX_VALUE, Long.MIN_VALUE};
        long[] seeds = {0, 7, -1, P, P + 1, Long.MAX_VALUE, Long.MIN_VALUE, -987654321987654321L, 1L << 61};
        for (int t = 0; t <= 8; t++) {
            SplitDesk desk = new SplitDesk();
            long number = numbers[t];
            long seed = seeds[t];
            int degree = t;
            BigInteger[] c = Model.drawn(Model.big(number), t, seed);
            Check.due("deal", () -> desk.deal(degree % 8, degree, degree + 1, number, seed), true);
            Desks.shape("fewest places", desk, t % 8, t, t + 1, t + 1);
            Desks.shares("fewest places", desk, t % 8, Desks.onCurve(c, t + 1));
            Check.due("deal", () -> desk.deal(7, degree, 16, number, seed), true);
            Desks.shape("most places", desk, 7, t, 16, 16);
            Desks.shares("most places", desk, 7, Desks.onCurve(c, 16));
        }
    }

    private static void promise2DealRefused() {
        SplitDesk desk = new SplitDesk();
        desk.deal(0, 2, 4, 9, 9);
        Long[] before = Desks.onCurve(Model.drawn(Model.big(9), 2, 9), 4);
        for (int s : Desks.NO_SPLITS) {
            Check.due("deal(" + s + ", ..)", () -> desk.deal(s, 1, 3, 5, 5), false);
        }
        int[][] wrongShapes = {
            {-1, 3}, {9, 16}, {9, 10}, {Integer.MIN_VALUE, 3}, {Integer.MAX_VALUE, 3}, {Integer.MAX_VALUE, 16},
            {0, 0}, {0, -1}, {0, 17}, {3, 3}, {8, 8}, {8, 17}, {2, Integer.MAX_VALUE}, {2, Integer.MIN_VALUE},
        };
        for (int[] shape : wrongShapes) {
            Check.due("deal(0, " + shape[0] + ", " + shape[1] + ", ..)",
                () -> desk.deal(0, shape[0], shape[1], 5, 5), false);
        }
        Desks.shape("refused", desk, 0, 2, 4, 4);
        Desks.shares("refused", desk, 0, before);
    }

    private static void promise2DealAgain() {
        SplitDesk desk = new SplitDesk();
        desk.deal(3, 4, 9, 1, 1);
        desk.lose(3, 1);
        desk.lose(3, 9);
        desk.deal(3, 0, 2, 77, 1);
        Desks.shape("dealt again", desk, 3, 0, 2, 2);
        Desks.shares("dealt again", desk, 3, 77L, 77L);
        desk.deal(3, 0, 10, 78, 1);
        Desks.shape("dealt larger", desk, 3, 0, 10, 10);
        Check.due("what was lost before is there", () -> desk.share(3, 9), 78);
        Desks.shape("another split", desk, 2, 0, 0, 0);
    }

    private static void promise3Put() {
        SplitDesk desk = new SplitDesk();
        Desks.lay(desk, 1, 0, 1L, null, 3L);
        Check.due("put", () -> desk.put(1, 1, 10), true);
        Check.due("put where it was lost", () -> desk.put(1, 2, -1), true);
        Desks.shares("put", desk, 1, 10L, P - 1, 3L);
        Desks.shape("put", desk, 1, 0, 3, 3);
        long[][] taken = {{P, 0}, {P + 5, 5}, {-P, 0}, {-P - 1, P - 1}, {2 * P, 0}, {Long.MAX_VALUE, 3},
            {Long.MIN_VALUE, P - 4}};
        for (long[] pair : taken) {
            desk.put(1, 3, pair[0]);
            Check.due("put " + pair[0], () -> desk.share(1, 3), pair[1]);
        }
        for (int place : new int[] {0, -1, 4, 16, 17, Integer.MIN_VALUE, Integer.MAX_VALUE}) {
            Check.due("put at " + place, () -> desk.put(1, place, 8), false);
        }
        for (int s : Desks.NO_SPLITS) {
            Check.due("put(" + s + ", ..)", () -> desk.put(s, 1, 8), false);
        }
        Desks.shape("put refused", desk, 1, 0, 3, 3);
        Desks.shares("put refused", desk, 1, 10L, P - 1, P - 4);
    }

    private static void promise4Lose() {
        SplitDesk desk = new SplitDesk();
        Desks.lay(desk, 6, 1, 5L, 6L, 7L);
        Check.due("lose", () -> desk.lose(6, 2), true);
        Desks.shares("lost", desk, 6, 5L, null, 7L);
        Desks.shape("lost", desk, 6, 1, 3, 2);
        Check.due("lose again", () -> desk.lose(6, 2), false);
        for (int place : new int[] {0, -1, 4, 17, Integer.MIN_VALUE, Integer.MAX_VALUE}) {
            Check.due("lose at " + place, () -> desk.lose(6, place), false);
        }
        for (int s : Desks.NO_SPLITS) {
            Check.due("lose(" + s + ", 1)", () -> desk.lose(s, 1), false);
        }
        Check.due("lose the first", () -> desk.lose(6, 1), true);
        Check.due("lose the last", () -> desk.lose(6, 3), true);
        Desks.shape("all lost", desk, 6, 1, 3, 0);
    }

    private static void promise5Join() {
        SplitDesk desk = new SplitDesk();
        Desks.lay(desk, 0, 1, 10L, P - 1, null, 4L, 5L);
        Desks.lay(desk, 1, 3, 3L, P - 2, 30L, null);
        desk.deal(2, 8, 16, 1, 1);
        Check.due("join added", () -> desk.join(2, 0, 1, 0), true);
        Desks.shape("added", desk, 2, 3, 4, 2);
        Desks.shares("added", desk, 2, 13L, P - 3, null, null);
        Check.due("join taken", () -> desk.join(2, 1, 0, 1), true);
        Desks.shape("taken", desk, 2, 3, 4, 2);
        Desks.shares("taken", desk, 2, P - 7, P - 1, null, null);
        Check.due("join taken", () -> desk.join(2, 0, 1, 1), true);
        Desks.shares("taken", desk, 2, 7L, 1L, null, null);
        Check.due("join product", () -> desk.join(2, 0, 1, 2), true);
        Desks.shape("product", desk, 2, 4, 4, 2);
        Desks.shares("product", desk, 2, 30L, 2L, null, null);
        Desks.shape("what was joined", desk, 0, 1, 5, 4);
        Desks.shape("what was joined", desk, 1, 3, 4, 3);
        Desks.lay(desk, 3, 4, 1L << 60, 1L << 31, P - 1, P - 1, 1L << 40);
        Check.due("join product of degree 8", () -> desk.join(4, 3, 3, 2), true);
        Desks.shape("product of degree 8", desk, 4, 8, 5, 5);
        Desks.shares("product of degree 8", desk, 4, 1L << 59, 2L, 1L, 1L, 1L << 19);
        Check.due("join with one of no places", () -> desk.join(4, 3, 7, 0), true);
        Desks.shape("with one of no places", desk, 4, 4, 0, 0);
    }

    private static void promise5JoinOntoItself() {
        SplitDesk desk = new SplitDesk();
        Desks.lay(desk, 0, 2, 10L, 20L, 30L, 40L);
        Desks.lay(desk, 1, 1, 1L, null, 3L);
        Check.due("join onto the first", () -> desk.join(0, 0, 1, 1), true);
        Desks.shape("onto the first", desk, 0, 2, 3, 2);
        Desks.shares("onto the first", desk, 0, 9L, null, 27L);
        Check.due("join onto the second", () -> desk.join(1, 0, 1, 2), true);
        Desks.shape("onto the second", desk, 1, 3, 3, 2);
        Desks.shares("onto the second", desk, 1, 9L, null, 81L);
        Check.due("join of one alone", () -> desk.join(1, 1, 1, 1), true);
        Desks.shape("of one alone", desk, 1, 3, 3, 2);
        Desks.shares("of one alone", desk, 1, 0L, null, 0L);
    }

    private static void promise5JoinRefused() {
        SplitDesk desk = new SplitDesk();
        Desks.lay(desk, 0, 4, 1L, 2L, 3L, 4L, 5L, 6L);
        Desks.lay(desk, 1, 5, 1L, 2L, 3L, 4L, 5L, 6L);
        Desks.lay(desk, 2, 0, 8L);
        for (int s : Desks.NO_SPLITS) {
            Check.due("join(" + s + ", 0, 0, 0)", () -> desk.join(s, 0, 0, 0), false);
            Check.due("join(2, " + s + ", 0, 0)", () -> desk.join(2, s, 0, 0), false);
            Check.due("join(2, 0, " + s + ", 0)", () -> desk.join(2, 0, s, 0), false);
        }
        for (int how : new int[] {-1, 3, Integer.MIN_VALUE, Integer.MAX_VALUE}) {
            Check.due("join(2, 0, 0, " + how + ")", () -> desk.join(2, 0, 0, how), false);
        }
        Check.due("join product of degree 9", () -> desk.join(2, 0, 1, 2), false);
        Desks.shape("refused", desk, 2, 0, 1, 1);
        Desks.shares("refused", desk, 2, 8L);
        Check.due("join added of the same", () -> desk.join(2, 0, 1, 0), true);
        Desks.shape("added of the same", desk, 2, 5, 6, 6);
    }

    private static void promise6Scale() {
        SplitDesk desk = new SplitDesk();
        Desks.lay(desk, 5, 1, 0L, 1L, null, P - 1, 1L << 60);
        Check.due("scale", () -> desk.scale(5, 4, 3), true);
        Desks.shares("scaled", desk, 5, 3L, 7L, null, P - 1, 5L);
        Desks.shape("scaled", desk, 5, 1, 5, 4);
        Check.due("scale by -1, less 1", () -> desk.scale(5, -1, -1), true);
        Desks.shares("scaled by -1", desk, 5, P - 4, P - 8, null, 0L, P - 6);
        Check.due("scale by P + 1, and P more", () -> desk.scale(5, P + 1, P), true);
        Desks.shares("scaled by 1", desk, 5, P - 4, P - 8, null, 0L, P - 6);
        Check.due("scale by the least", () -> desk.scale(5, Long.MIN_VALUE, Long.MAX_VALUE), true);
        Desks.shares("scaled by the least", desk, 5, 19L, 35L, null, 3L, 27L);
        Check.due("scale one of no places", () -> desk.scale(0, 2, 2), true);
        for (int s : Desks.NO_SPLITS) {
            Check.due("scale(" + s + ", ..)", () -> desk.scale(s, 2, 2), false);
        }
        desk.lose(5, 1);
        desk.scale(5, 0, 1);
        Desks.shares("scaled by 0", desk, 5, null, 1L, null, 1L, 1L);
    }

    private static void promise7Renew() {
        for (long seed : new long[] {0, 5, -5, P, Long.MIN_VALUE, Long.MAX_VALUE}) {
            SplitDesk desk = new SplitDesk();
            desk.deal(2, 3, 7, 99, 4);
            desk.lose(2, 3);
            Check.due("renew", () -> desk.renew(2, seed), true);
            Long[] old = Desks.onCurve(Model.drawn(Model.big(99), 3, 4), 7);
            Long[] more = Desks.onCurve(Model.drawn(BigInteger.ZERO, 3, seed), 7);
            Long[] due = new Long[7];
            for (int i = 0; i < 7; i++) {
                due[i] = i == 2 ? null : (Long) ((old[i] + more[i]) % P);
            }
            Desks.shares("renewed", desk, 2, due);
            Desks.shape("renewed", desk, 2, 3, 7, 6);
            Check.due("renewed: find", () -> desk.find(2, 1), 0);
            Check.due("renewed: the number", () -> desk.at(0), 99);
        }
        SplitDesk desk = new SplitDesk();
        Desks.lay(desk, 0, 0, 4L, null, 6L);
        Check.due("renew of degree 0", () -> desk.renew(0, 8), true);
        Desks.shares("renewed of degree 0", desk, 0, 4L, null, 6L);
        Check.due("renew one of no places", () -> desk.renew(7, 8), true);
        for (int s : Desks.NO_SPLITS) {
            Check.due("renew(" + s + ", 1)", () -> desk.renew(s, 1), false);
        }
    }

    private static void promise13Share() {
        SplitDesk desk = new SplitDesk();
        Desks.lay(desk, 7, 0, 11L, null, 13L);
        Desks.shares("laid", desk, 7, 11L, null, 13L);
        for (int place : new int[] {0, -1, 4, 17, Integer.MIN_VALUE, Integer.MAX_VALUE}) {
            Check.due("share(7, " + place + ")", () -> desk.share(7, place), Desks.NO_ELEMENT);
        }
        for (int s : Desks.NO_SPLITS) {
            Check.due("share(" + s + ", 1)", () -> desk.share(s, 1), Desks.NO_ELEMENT);
        }
        Desks.lay(desk, 7, 0, 1L, 2L, 3L, 4L);
        desk.join(7, 7, 6, 0);
        Desks.shares("no places any more", desk, 7);
    }

    private static void promise14Split() {
        SplitDesk desk = new SplitDesk();
        desk.deal(0, 3, 12, 5, 5);
        desk.lose(0, 12);
        Desks.shape("dealt", desk, 0, 3, 12, 11);
        for (int what : new int[] {-1, 3, Integer.MIN_VALUE, Integer.MAX_VALUE}) {
            Check.due("split(0, " + what + ")", () -> desk.split(0, what), SplitDesk.NONE);
        }
        for (int s : Desks.NO_SPLITS) {
            for (int i = 0; i <= 2; i++) {
                int what = i;
                Check.due("split(" + s + ", " + what + ")", () -> desk.split(s, what), SplitDesk.NONE);
            }
        }
    }
}
