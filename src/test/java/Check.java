/** What the tests of the project share: due answers, due exceptions, and the exit code at the end. */
final class Check {
    interface Call {
        void make();
    }

    private static int made = 0;
    private static int wrong = 0;
    private static String about = "";

    /** What the checks are for from here on, to be said ahead of each one that is wrong. */
    static void about(String text) {
        about = text;
    }

    static int made() {
        return made;
    }

    static void same(String what, long got, long due) {
        made++;
        if (got != due) {
            say(what + " answered " + got + ", due is " + due);
        }
    }

    static void same(String what, boolean got, boolean due) {
        same(what, got ? 1 : 0, due ? 1 : 0);
    }

    static void same(String what, double got, double due) {
        made++;
        if (got != due) {
            say(what + " answered " + got + ", due is " + due);
        }
    }

    static void same(String what, String got, String due) {
        made++;
        if (!got.equals(due)) {
            say(what + " answered " + got + ", due is " + due);
        }
    }

    /** The call throws exactly this exception. Refusal.check tells, too, whether it changes nothing. */
    static void refuses(String what, Class<? extends RuntimeException> due, Call call) {
        same(what, nameOfThrown(call), due.getSimpleName());
    }

    static String nameOfThrown(Call call) {
        try {
            call.make();
            return "nothing";
        } catch (RuntimeException thrown) {
            return thrown.getClass().getSimpleName();
        }
    }

    static void finish() {
        System.out.println(made + " checks, " + wrong + " wrong");
        if (wrong != 0) {
            System.exit(1);
        }
    }

    private static void say(String text) {
        wrong++;
        if (wrong <= 40) {
            System.out.println(about + text);
        }
    }
}
