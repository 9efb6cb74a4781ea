import java.lang.reflect.InvocationTargetException;
import java.lang.reflect.Method;
import java.util.Map;
import java.util.TreeMap;

/**
 * Runs each case of a test that bears a Sentence: again and again on one object until its 512 calls are spent, and
 * that for some objects, which had from none to 360 calls of any kind before. So a sentence must hold early and late.
 */
final class Sentences {
    private static final int OBJECTS = 10;
    private static final int MOST_CALLS_BEFORE = 360;

    private Sentences() {
    }

    static Map<String, Method> casesOf(Class<?> test) {
        Map<String, Method> cases = new TreeMap<>();
        for (Method method : test.getDeclaredMethods()) {
            if (method.isAnnotationPresent(Sentence.class)) {
                cases.put(method.getName(), method);
            }
        }
        return cases;
    }

    static void runAll(Class<?> test) {
        Map<String, Method> cases = casesOf(test);
        for (Method method : cases.values()) {
            Check.beginCase(test.getSimpleName() + "." + method.getName());
            for (int object = 0; object < OBJECTS; object++) {
                int callsBefore = object == 0 ? 0 : object == 1 ? 1 : MOST_CALLS_BEFORE * (object - 1) / (OBJECTS - 2);
                Run run = new Run("object " + object, method.getName().hashCode() + object);
                int rounds = runOne(method, run, callsBefore);
                Check.same("object " + object + ": its calls", run.calls(), Run.CALLS);
                Check.same("object " + object + ": it has a whole round", rounds > 0, true);
            }
        }
        Check.same("there are cases:", cases.size() > 0, true);
        System.out.print(cases.size() + " cases, ");
        Check.end();
    }

    /** How many rounds of the case the object's calls sufficed for. */
    private static int runOne(Method method, Run run, int callsBefore) {
        begin(run, method.getAnnotation(Sentence.class).from(), callsBefore);
        int rounds = 0;
        Object thrown = "nothing";
        // A round that makes no call would never spend them.
        for (int calls = -1; calls < run.calls() && thrown.equals("nothing"); rounds++) {
            calls = run.calls();
            try {
                method.invoke(null, run);
            } catch (InvocationTargetException e) {
                if (e.getCause() instanceof Run.Spent) {
                    return rounds;
                }
                thrown = e.getCause();
            } catch (IllegalAccessException e) {
                thrown = e;
            }
        }
        Check.same("the case itself threw, it", thrown, "nothing");
        return rounds;
    }

    private static void begin(Run run, Sentence.Start start, int callsBefore) {
        AnyCalls calls = new AnyCalls(run);
        while (run.calls() < callsBefore) {
            if (start == Sentence.Start.ANY) {
                calls.any();
            } else if (start == Sentence.Start.NONE_FOUND) {
                calls.noneFound();
            } else if (run.chance(50)) {
                calls.refused();
            } else {
                calls.read();
            }
        }
    }
}
