import java.util.ArrayList;
import java.util.List;
import java.util.function.Function;
import java.util.function.IntBinaryOperator;
import java.util.function.IntSupplier;

/**
 * A way to go on with an object. All of them together ask for all that calls can change; each makes no
 * more than some 420 calls, so that an object stays within its 512.
 */
record Later(String name, Function<PaneScreen, String> way) {
    static List<Later> all() {
        List<Later> all = new ArrayList<>();
        all.add(new Later("look at the screen", p -> cells(p::screen)));
        all.add(new Later("flush and look at the screen", p -> p.flush() + " " + cells(p::screen)));
        all.add(new Later("look at whose the cells are", p -> cells(p::at)));
        for (int window = 0; window < 8; window++) {
            int w = window;
            all.add(new Later("look at picture " + w, p -> picture(p, w)));
            all.add(new Later("draw in picture " + w, p -> drawn(p, w)));
        }
        all.add(new Later("take all events", Later::takenEvents));
        all.add(new Later("press keys", Later::pressedKeys));
        all.add(new Later("click all over", Later::clicks));
        all.add(new Later("close all", Later::closedFromTheFront));
        all.add(new Later("open more", Later::opened));
        all.add(new Later("damage more", Later::damaged));
        all.add(new Later("put all in another order", Later::reordered));
        return all;
    }

    private static String cells(IntBinaryOperator call) {
        StringBuilder text = new StringBuilder();
        for (int y = 0; y < 16; y++) {
            for (int x = 0; x < 24; x++) {
                text.append(call.applyAsInt(x, y)).append(' ');
            }
        }
        return text.toString();
    }

    private static String picture(PaneScreen p, int window) {
        StringBuilder text = new StringBuilder();
        boolean rowThere = true;
        for (int v = 0; v < 16 && rowThere; v++) {
            boolean cellThere = true;
            for (int u = 0; u < 24 && cellThere; u++) {
                int column = u;
                int row = v;
                String answer = Answer.of(() -> p.picture(window, column, row));
                text.append(answer).append(' ');
                cellThere = !answer.startsWith("java");
                rowThere = cellThere || u > 0;
            }
        }
        return text.toString();
    }

    private static String drawn(PaneScreen p, int window) {
        return Answer.of(() -> p.line(window, 12, 9, 201)) + " " + Answer.of(() -> p.line(window, -3, 4, 202)) + " "
                + picture(p, window);
    }

    private static String answers(IntSupplier... calls) {
        StringBuilder text = new StringBuilder();
        for (IntSupplier call : calls) {
            text.append(Answer.of(call)).append(' ');
        }
        return text.toString();
    }

    private static String figures(PaneScreen p) {
        StringBuilder text = new StringBuilder();
        for (int k = 0; k <= 8; k++) {
            text.append(p.figure(k)).append(' ');
        }
        return text.toString();
    }

    private static String takenEvents(PaneScreen p) {
        StringBuilder text = new StringBuilder(figures(p));
        for (int window = -1; window <= 8; window++) {
            int w = window;
            text.append(answers(() -> p.visible(w)));
        }
        text.append(answers(() -> p.event(0), () -> p.event(1), () -> p.event(2)));
        for (int k = 0; k < 13; k++) {
            text.append(answers(p::next, () -> p.event(0), () -> p.event(1), () -> p.event(2)));
        }
        return text.append(figures(p)).toString();
    }

    private static String pressedKeys(PaneScreen p) {
        StringBuilder text = new StringBuilder();
        for (int code = 300; code < 314; code++) {
            text.append(p.key(code)).append(' ').append(p.figure(6)).append(' ').append(p.figure(7)).append(' ');
        }
        return text.append(takenEvents(p)).toString();
    }

    private static String clicks(PaneScreen p) {
        StringBuilder text = new StringBuilder();
        for (int y = 0; y < 16; y += 3) {
            for (int x = 0; x < 24; x += 3) {
                text.append(p.click(x, y)).append(' ').append(p.figure(0)).append(' ').append(p.figure(7)).append(' ');
            }
        }
        return text.append(takenEvents(p)).toString();
    }

    private static String closedFromTheFront(PaneScreen p) {
        StringBuilder text = new StringBuilder();
        for (int k = 0; k < 9; k++) {
            text.append(answers(() -> done(() -> p.close(p.figure(2))))).append(figures(p));
        }
        return text.append(p.flush()).toString();
    }

    private static String opened(PaneScreen p) {
        StringBuilder text = new StringBuilder();
        for (int k = 1; k <= 9; k++) {
            int height = k;
            text.append(answers(() -> p.open(0, 0, 3, height))).append(figures(p));
        }
        return text.append(p.flush()).toString();
    }

    private static String damaged(PaneScreen p) {
        StringBuilder text = new StringBuilder();
        for (int k = 0; k < 3; k++) {
            int colour = 50 + k;
            text.append(answers(() -> Answer.number(p.plot(p.figure(2), 0, 0, colour)), () -> p.figure(5)));
        }
        return text.append(p.flush()).append(' ').append(cells(p::screen)).toString();
    }

    private static String reordered(PaneScreen p) {
        StringBuilder text = new StringBuilder();
        for (int window = 0; window < 8; window++) {
            int w = window;
            text.append(answers(() -> Answer.number(p.raise(w, w % 2 == 0)), () -> p.figure(5), () -> p.figure(2)));
        }
        return text.append(cells(p::at)).toString();
    }

    private static int done(Runnable call) {
        call.run();
        return 0;
    }
}
