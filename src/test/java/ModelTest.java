import java.util.Map;
import java.util.TreeMap;

/** Runs of all the 512 calls of an object, of any kind, on SplitDesk and on Model: each answer must be the same. */
public final class ModelTest {
    private static final int RUNS = 150;
    /** What readAll makes at most: 3 calls for each split and 16 places of it, and 26. */
    private static final int CALLS_TO_READ_ALL = 8 * (3 + 16) + 26;

    public static void main(String[] args) {
        Map<String, Integer> finds = new TreeMap<>();
        for (int number = 0; number < RUNS; number++) {
            Run run = new Run("run " + number, number);
            AnyCalls calls = new AnyCalls(run);
            go(run, calls, number % 3 == 0);
            Check.same("run " + number + ": its calls", run.calls(), Run.CALLS);
            calls.finds.forEach((answer, times) -> finds.merge(answer, times, Integer::sum));
        }
        System.out.println("find answered " + finds);
        for (String answer : new String[] {"0", "1", "2", "3", "4", "5", "6", "7", Desks.ARGUMENT, Desks.STATE}) {
            Check.same("find ever: " + answer, finds.containsKey(answer), true);
        }
        Check.end();
    }

    private static void go(Run run, AnyCalls calls, boolean readsAllAtItsEnd) {
        try {
            while (!readsAllAtItsEnd || run.calls() < Run.CALLS - CALLS_TO_READ_ALL) {
                calls.any();
            }
            calls.readAll();
            while (true) {
                calls.read();
            }
        } catch (Run.Spent e) {
            // The run has an end only here: all of its calls were made.
        }
    }
}
