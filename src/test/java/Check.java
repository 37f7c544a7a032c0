/** Counts what was not as due; each test's main ends with finish(). */
final class Check {
    private static int checks = 0;
    private static int wrong = 0;
    private static String about = "";

    private Check() {
    }

    interface Call {
        void run();
    }

    static int checks() {
        return checks;
    }

    /** What the checks from now on are about: told before each one that is wrong. */
    static void about(String words) {
        about = words;
    }

    static void is(String what, long due, long got) {
        checks++;
        if (due != got) {
            tell(what + ": answered " + got + ", due is " + due);
        }
    }

    static void yes(String what, boolean got) {
        is(what, 1, got ? 1 : 0);
    }

    static void no(String what, boolean got) {
        is(what, 0, got ? 1 : 0);
    }

    static void argument(String what, Call call) {
        thrown(what, IllegalArgumentException.class, call);
    }

    static void state(String what, Call call) {
        thrown(what, IllegalStateException.class, call);
    }

    static void fine(String what, Call call) {
        thrown(what, null, call);
    }

    private static void thrown(String what, Class<?> due, Call call) {
        checks++;
        Class<?> got = null;
        try {
            call.run();
        } catch (RuntimeException e) {
            got = e.getClass();
        }
        if (got != due) {
            tell(what + ": threw " + got + ", due is " + due);
        }
    }

    static void tell(String text) {
        wrong++;
        System.out.println(about + text);
    }

    static void finish() {
        System.out.println(checks + " checks, " + wrong + " wrong");
        if (wrong != 0 || checks == 0) {
            System.exit(1);
        }
    }

    /** An open office whose zones 0 .. 3 each have one product of an hour, for 100, 200, 300, 400. */
    static ParkOffice hourly() {
        ParkOffice x = hourlyShut();
        x.open();
        return x;
    }

    static ParkOffice hourlyShut() {
        ParkOffice x = new ParkOffice();
        for (int zone = 0; zone < 4; zone++) {
            x.product(zone, 100 * (zone + 1), 60, zone);
        }
        return x;
    }
}
