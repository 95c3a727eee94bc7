import java.util.function.IntSupplier;

/** What a call answers, or the name of the exception that it throws, as a text. */
final class Answer {
    static final String DONE = "done";

    private Answer() {
    }

    static String of(IntSupplier call) {
        try {
            return Integer.toString(call.getAsInt());
        } catch (RuntimeException e) {
            return e.getClass().getName();
        }
    }

    static String ofRun(Runnable call) {
        try {
            call.run();
            return DONE;
        } catch (RuntimeException e) {
            return e.getClass().getName();
        }
    }

    static int number(boolean answer) {
        return answer ? 1 : 0;
    }
}
