/** Counts the answers that are not as due; every test of the project reports through it. */
final class Check {
    interface Call {
        long answer();
    }

    private static int checks = 0;
    private static int wrong = 0;

    private Check() {
    }

    static void same(String what, long got, long due) {
        checks++;
        if (got != due) {
            fail(what + " answered " + got + ", due is " + due);
        }
    }

    static void sameText(String what, String got, String due) {
        checks++;
        if (!got.equals(due)) {
            fail(what + " answered '" + got + "', due is '" + due + "'");
        }
    }

    static void holds(String what, boolean condition) {
        checks++;
        if (!condition) {
            fail(what + " does not hold");
        }
    }

    /** The exception must be of the named class itself: a class below it comes from the machine. */
    static void refuses(String what, Class<?> kind, Call call) {
        checks++;
        try {
            fail(what + " answered " + call.answer() + ", due is " + kind.getSimpleName());
        } catch (RuntimeException e) {
            if (e.getClass() != kind) {
                fail(what + " threw " + e + ", due is " + kind.getSimpleName());
            }
        }
    }

    /** As refuses, and the object must be the same before and after. */
    static void refusesUnchanged(String what, Class<?> kind, LineEchoes x, Call call) {
        long before = x.digest();
        refuses(what, kind, call);
        same("digest after the refused " + what, x.digest(), before);
    }

    static void fail(String message) {
        wrong++;
        if (wrong <= 50) {
            System.out.println(message);
        }
    }

    static void finish() {
        System.out.println(checks + " checks, " + wrong + " wrong");
        if (wrong != 0 || checks == 0) {
            System.exit(1);
        }
    }
}
