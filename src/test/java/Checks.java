/** Counts and prints the answers that are not the ones due. */
final class Checks {
    private int wrong = 0;
    private int made = 0;

    void same(String what, long got, long want) {
        made++;
        if (got != want) {
            report(what, Long.toString(got), Long.toString(want));
        }
    }

    void same(String what, boolean got, boolean want) {
        made++;
        if (got != want) {
            report(what, Boolean.toString(got), Boolean.toString(want));
        }
    }

    void same(String what, String got, String want) {
        made++;
        if (!got.equals(want)) {
            report(what, got, want);
        }
    }

    /** A call that throws must also change nothing that can be seen. */
    void refused(PaneScreen screen, String what, Class<?> want, Runnable call) {
        String before = Seen.of(screen);
        same(what, outcome(call), want.getName());
        same(what + " changes nothing", Seen.of(screen), before);
    }

    static String outcome(Runnable call) {
        try {
            call.run();
            return "nothing thrown";
        } catch (RuntimeException e) {
            return e.getClass().getName();
        }
    }

    int wrong() {
        return wrong;
    }

    void finish() {
        System.out.println(made + " checks, " + wrong + " wrong");
        if (wrong != 0) {
            System.exit(1);
        }
    }

    private void report(String what, String got, String want) {
        wrong++;
        System.out.println(what + ": got " + got + ", due is " + want);
    }
}
