/** Counts and prints the answers that are not the ones due. */
final class Checks {
    private String sentence = "";
    private int wrong = 0;
    private int made = 0;

    /** The sentence of the document that the next checks hold; it is printed with each wrong answer. */
    void about(String words) {
        sentence = words;
    }

    void same(String what, long got, long want) {
        same(what, Long.toString(got), Long.toString(want));
    }

    void same(String what, boolean got, boolean want) {
        same(what, Boolean.toString(got), Boolean.toString(want));
    }

    void same(String what, String got, String want) {
        made++;
        if (!got.equals(want)) {
            wrong++;
            System.out.println(sentence + " | " + what + ": got " + got + ", due is " + want);
        }
    }

    void refused(String what, Class<?> want, Runnable call) {
        same(what, Answer.ofRun(call), want.getName());
    }

    void allowed(String what, Runnable call) {
        same(what, Answer.ofRun(call), Answer.DONE);
    }

    /** Takes an event out of the line. */
    void nextIs(PaneScreen p, int kind, int window, int one, int two) {
        String got = Answer.of(p::next) + " of " + Answer.of(() -> p.event(0)) + " with "
                + Answer.of(() -> p.event(1)) + ", " + Answer.of(() -> p.event(2));
        same("next event", got, kind + " of " + window + " with " + one + ", " + two);
    }

    void lineIsEmpty(PaneScreen p) {
        same("events in the line", p.figure(6), 0);
    }

    int wrong() {
        return wrong;
    }

    void finish() {
        System.out.println(made + " checks, " + wrong + " wrong");
        if (wrong != 0) {
            System.exit(1);
        }
    }
}
