/** Counts what is wrong; a test class ends by exit code 1 if there was anything. */
final class Check {
    interface Call {
        Object answer();
    }

    private static int wrong = 0;
    private static int made = 0;

    private Check() {
    }

    static void is(String what, long got, long due) {
        made++;
        if (got != due) {
            tell(what + " answered " + got + ", due is " + due);
        }
    }

    static void is(String what, boolean got, boolean due) {
        is(what, got ? 1 : 0, due ? 1 : 0);
    }

    static void isDouble(String what, double got, double due) {
        made++;
        if (Double.compare(got, due) != 0) {
            tell(what + " answered " + got + ", due is " + due);
        }
    }

    static void isText(String what, String got, String due) {
        made++;
        if (!got.equals(due)) {
            tell(what + " answered " + got + ", due is " + due);
        }
    }

    /** What a call answers, as a text; for one that throws, the name of the exception's very class. */
    static String outcome(Call call) {
        try {
            return String.valueOf(call.answer());
        } catch (RuntimeException thrown) {
            return "throws." + thrown.getClass().getSimpleName() + (thrownByThrow(thrown) ? "" : " of the machine");
        }
    }

    /** Whether a throw statement of the program did it, and no index or reference inside the library. */
    private static boolean thrownByThrow(RuntimeException thrown) {
        StackTraceElement[] trace = thrown.getStackTrace();
        if (trace.length == 0) {
            return false;
        }
        String where = trace[0].getClassName();
        return where.startsWith("MarketAwnings") || where.equals("Model");
    }

    /** The call throws just this, and changes nothing that the square tells. */
    static void refuses(MarketAwnings square, String what, Class<?> due, Call call) {
        long before = square.digest();
        double meanBefore = square.mean();
        isText(what, outcome(call), "throws." + due.getSimpleName());
        is(what + ", then digest()", square.digest(), before);
        isDouble(what + ", then mean()", square.mean(), meanBefore);
    }

    static void end(String name) {
        System.out.println(name + ": " + made + " checks, " + wrong + " wrong");
        if (wrong > 0) {
            System.exit(1);
        }
    }

    private static void tell(String text) {
        wrong++;
        if (wrong <= 40) {
            System.out.println(text);
        }
    }
}
