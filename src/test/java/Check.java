/** Counts the answers that are not as due and tells the first; a call that throws answers "throws." and its class. */
final class Check {
    interface Call {
        Object answer();
    }

    private static final int MOST_TOLD = 100;
    private static String inCase = "";
    private static int checked = 0;
    private static int wrong = 0;

    private Check() {
    }

    /** What is told from here on begins with the name of this case. */
    static void beginCase(String name) {
        inCase = name + ": ";
    }

    static int checkedSoFar() {
        return checked;
    }

    static String outcome(Call call) {
        try {
            return String.valueOf(call.answer());
        } catch (RuntimeException e) {
            return "throws." + e.getClass().getSimpleName();
        }
    }

    static void due(String what, Call call, Object want) {
        same(what, outcome(call), want);
    }

    static void same(String what, Object got, Object want) {
        checked++;
        if (!String.valueOf(got).equals(String.valueOf(want))) {
            wrong++;
            if (wrong <= MOST_TOLD) {
                System.out.println(inCase + what + " answered " + got + ", due is " + want);
            }
        }
    }

    /** Ends the test; a test that checked nothing fails too. */
    static void end() {
        System.out.println(checked + " answers checked, " + wrong + " not as due");
        if (wrong != 0 || checked == 0) {
            System.exit(1);
        }
    }
}
