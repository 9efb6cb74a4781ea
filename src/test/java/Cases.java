import java.lang.reflect.InvocationTargetException;
import java.lang.reflect.Method;
import java.lang.reflect.Modifier;
import java.util.TreeMap;

/** Runs each static method of a test that takes and answers nothing as a case of its own, so that none is forgotten. */
final class Cases {
    private Cases() {
    }

    static void runAll(Class<?> test) {
        TreeMap<String, Method> cases = new TreeMap<>();
        for (Method method : test.getDeclaredMethods()) {
            if (Modifier.isStatic(method.getModifiers()) && !method.isSynthetic()
                && method.getParameterCount() == 0 && method.getReturnType() == void.class) {
                cases.put(method.getName(), method);
            }
        }
        for (Method method : cases.values()) {
            runOne(method);
        }
        Check.same("there are cases:", cases.size() > 0, true);
        System.out.print(cases.size() + " cases, ");
        Check.end();
    }

    private static void runOne(Method method) {
        Check.beginCase(method.getDeclaringClass().getSimpleName() + "." + method.getName());
        int before = Check.checkedSoFar();
        Object thrown = "nothing";
        try {
            method.invoke(null);
        } catch (InvocationTargetException e) {
            thrown = e.getCause();
        } catch (IllegalAccessException e) {
            thrown = e;
        }
        Check.same("it checked something:", Check.checkedSoFar() > before, true);
        Check.same("the case itself threw, it", thrown, "nothing");
    }
}
