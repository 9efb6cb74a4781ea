import java.math.BigInteger;
import java.util.Arrays;
import java.util.function.Supplier;

/** What the tests share: desks that are laid out, and what is seen of one. */
final class Desks {
    static final long P = (1L << 61) - 1;
    static final int LEAST = Integer.MIN_VALUE;
    static final int MOST = Integer.MAX_VALUE;
    static final int[] NO_SPLITS = {-1, 8, 9, LEAST, MOST};

    static final String ARGUMENT = "throws.IllegalArgumentException";
    static final String STATE = "throws.IllegalStateException";
    static final String NO_ELEMENT = "throws.NoSuchElementException";

    private Desks() {
    }

    /** A desk whose split s has the degree and just these shares, null for one that is lost. */
    static SplitDesk laid(int s, int t, Long... values) {
        SplitDesk desk = new SplitDesk();
        lay(desk, s, t, values);
        return desk;
    }

    static void lay(SplitDesk desk, int s, int t, Long... values) {
        Check.due("the deal of a test", () -> desk.deal(s, t, values.length, 0, 0), true);
        for (int i = 0; i < values.length; i++) {
            if (values[i] == null) {
                desk.lose(s, i + 1);
            } else {
                desk.put(s, i + 1, values[i]);
            }
        }
    }

    static SplitDesk dealt(int s, int t, int n, long number, long seed) {
        SplitDesk desk = new SplitDesk();
        Check.due("the deal of a test", () -> desk.deal(s, t, n, number, seed), true);
        return desk;
    }

    static void loseAll(SplitDesk desk, int s) {
        for (int place = 1; place <= 16; place++) {
            desk.lose(s, place);
        }
    }

    static void shape(String when, SplitDesk desk, int s, int degree, int n, int there) {
        Check.due(when + ": split(" + s + ", 0)", () -> desk.split(s, 0), degree);
        Check.due(when + ": split(" + s + ", 1)", () -> desk.split(s, 1), n);
        Check.due(when + ": split(" + s + ", 2)", () -> desk.split(s, 2), there);
    }

    /** The shares from place 1 on, null for one that is lost, and none behind them. */
    static void shares(String when, SplitDesk desk, int s, Long... due) {
        for (int i = 0; i < due.length; i++) {
            int place = i + 1;
            Check.due(when + ": share(" + s + ", " + place + ")", () -> desk.share(s, place),
                due[i] == null ? NO_ELEMENT : due[i]);
        }
        Check.due(when + ": the share behind the last", () -> desk.share(s, due.length + 1), NO_ELEMENT);
    }

    static Long[] onCurve(BigInteger[] c, int n) {
        Long[] values = new Long[n];
        for (int i = 0; i < n; i++) {
            values[i] = Model.value(c, Model.big(i + 1)).longValueExact();
        }
        return values;
    }

    static Long[] onDealt(int t, int n, long number, long seed) {
        return onCurve(Model.drawn(Model.big(number), t, seed), n);
    }

    static Long[] allThe(Long value, int n) {
        Long[] values = new Long[n];
        Arrays.fill(values, value);
        return values;
    }

    /** All nine parts of what was found: those given, and 0 above them. */
    static void parts(String when, SplitDesk desk, long... due) {
        for (int i = 0; i <= 8; i++) {
            int k = i;
            Check.due(when + ": part(" + k + ")", () -> desk.part(k), k < due.length ? due[k] : 0);
        }
    }

    static long[] drawnParts(long number, int t, long seed) {
        BigInteger[] c = Model.drawn(Model.big(number), t, seed);
        long[] parts = new long[c.length];
        for (int k = 0; k < c.length; k++) {
            parts[k] = c[k].longValueExact();
        }
        return parts;
    }

    /** The places that are told to be wrong, of -1 .. 18, as a text: "2 5". */
    static void wrongPlaces(String when, SplitDesk desk, String due) {
        StringBuilder got = new StringBuilder();
        for (int place = -1; place <= 18; place++) {
            if (desk.wrong(place)) {
                got.append(place).append(' ');
            }
        }
        Check.same(when + ": the wrong places", got.toString().trim(), due);
    }

    /** Splits of many shapes, some shares lost, and a curve found for split 2, which has changed since. */
    static SplitDesk busy() {
        SplitDesk desk = new SplitDesk();
        desk.deal(0, 2, 4, 70, 71);
        desk.lose(0, 2);
        desk.deal(1, 4, 6, 72, 73);
        desk.deal(2, 1, 16, 74, 75);
        desk.put(2, 3, 5);
        desk.put(2, 7, 6);
        desk.find(2, 2);
        desk.lose(2, 3);
        desk.put(2, 9, 7);
        desk.deal(3, 5, 6, 76, 77);
        loseAll(desk, 3);
        desk.deal(7, 8, 9, 78, 79);
        return desk;
    }

    /** All that can be asked without a change, as a text; 52 calls, and one for each place that a split has. */
    static String seen(SplitDesk desk) {
        StringBuilder seen = new StringBuilder();
        for (int s = 0; s < 8; s++) {
            int n = desk.split(s, 1);
            seen.append(desk.split(s, 0)).append('/').append(n).append('/').append(desk.split(s, 2)).append(':');
            for (int place = 1; place <= n; place++) {
                int split = s;
                int at = place;
                seen.append(' ').append(Check.outcome(() -> desk.share(split, at)));
            }
            seen.append('\n');
        }
        for (int i = 0; i <= 8; i++) {
            int k = i;
            seen.append(Check.outcome(() -> desk.part(k))).append(' ');
        }
        for (int place = 0; place <= 17; place++) {
            seen.append(desk.wrong(place) ? '1' : '0');
        }
        seen.append(' ').append(Check.outcome(() -> desk.at(17)));
        return seen.toString();
    }

    interface DeskCall {
        Object answer(SplitDesk desk);
    }

    /** The call is answered as due, and its desk is then as one that had no such call, behind a mend too. */
    static void changesNothing(String what, Supplier<SplitDesk> make, DeskCall call, Object due) {
        SplitDesk desk = make.get();
        SplitDesk untouched = make.get();
        Check.due(what, () -> call.answer(desk), due);
        Check.same(what + ": what is seen behind it", seen(desk), seen(untouched));
        Check.same(what + ": a mend behind it", desk.mend(), untouched.mend());
        Check.same(what + ": what is seen behind a mend", seen(desk), seen(untouched));
    }

    /** A call to a busy desk that is refused by false, and changes nothing. */
    static void refused(String what, DeskCall call) {
        changesNothing(what, Desks::busy, call, false);
    }
}
