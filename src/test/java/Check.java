/** What the tests share: it compares answers, counts and prints the wrong ones, and ends the run. */
final class Check {
    /** A call whose answer does not matter. */
    interface Call {
        void run();
    }

    private static int wrong = 0;
    private static int made = 0;

    private Check() {
    }

    static void due(String what, long got, long want) {
        made++;
        if (got != want) {
            wrong++;
            System.out.println(what + ": answered " + got + ", due is " + want);
        }
    }

    static void due(String what, boolean got, boolean want) {
        due(what, got ? 1 : 0, want ? 1 : 0);
    }

    static void outOfBounds(String what, Call call) {
        refused(what, call, IndexOutOfBoundsException.class);
    }

    static void badArgument(String what, Call call) {
        refused(what, call, IllegalArgumentException.class);
    }

    static void badState(String what, Call call) {
        refused(what, call, IllegalStateException.class);
    }

    private static void refused(String what, Call call, Class<?> due) {
        made++;
        String got = "nothing";
        try {
            call.run();
        } catch (RuntimeException e) {
            if (e.getClass() == due && isThrownBy("Peatland", e)) {
                return;
            }
            got = e.getClass().getName() + (isThrownBy("Peatland", e) ? "" : " of the machine or the library");
        }
        wrong++;
        System.out.println(what + ": threw " + got + ", due is " + due.getName());
    }

    /** What the machine throws by itself, and what a list throws, the program has to be ahead of. */
    static boolean isThrownBy(String program, RuntimeException e) {
        StackTraceElement[] trace = e.getStackTrace();
        return trace.length > 0 && trace[0].getClassName().startsWith(program);
    }

    static boolean isWrong() {
        return wrong > 0;
    }

    static void end(String test) {
        System.out.println(test + ": " + made + " checks, " + wrong + " wrong");
        if (wrong > 0 || made == 0) {
            System.exit(1);
        }
    }
}
