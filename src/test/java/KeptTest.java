import java.util.LinkedHashMap;
import java.util.List;
import java.util.Map;
import java.util.function.Consumer;
import java.util.function.Function;

/** Every call changes what its promise speaks of, and keeps all the rest. */
public final class KeptTest {
    private static final int[] WIDTHS = {3, 3, 2};
    private static final int[] HEIGHTS = {2, 3, 2};
    private static final int WINDOWS = WIDTHS.length;

    private static final Checks checks = new Checks();
    private static final Map<String, Function<PaneScreen, String>> parts = parts();

    public static void main(String[] args) {
        windowsAndTheirOrder();
        pictures();
        painting();
        events();
        questions();
        checks.finish();
    }

    /**
     * Window 0 lies over a cell of window 1; the order is 0, 2, 1, window 2 has the focus. One event was taken,
     * one stands, one cell is damaged, and no two windows have the same picture, size or pen.
     */
    private static PaneScreen marked() {
        PaneScreen p = new PaneScreen();
        int[][] places = {{1, 1}, {3, 2}, {8, 4}};
        for (int window = 0; window < WINDOWS; window++) {
            p.open(places[window][0], places[window][1], WIDTHS[window], HEIGHTS[window]);
            p.fill(window, 0, 0, 1023, window + 1);
            p.plot(window, 1, 0, window + 5);
        }
        p.pen(0, 0, 1);
        p.pen(1, 1, 1);
        p.pen(2, -1, 0);
        p.raise(0, true);
        p.key(7);
        p.key(8);
        p.next();
        p.flush();
        p.plot(2, 0, 0, 4);
        return p;
    }

    private static Map<String, Function<PaneScreen, String>> parts() {
        Map<String, Function<PaneScreen, String>> all = new LinkedHashMap<>();
        all.put("focus", p -> "" + p.figure(0));
        all.put("order", KeptTest::order);
        all.put("store", p -> p.figure(3) + " " + p.figure(4));
        all.put("damage", p -> p.figure(5) + " " + p.flush());
        all.put("screen", p -> Look.screen(p, 0, 0, 24, 16));
        all.put("painted", p -> "" + p.figure(8));
        all.put("line", KeptTest::line);
        all.put("dropped", p -> "" + p.figure(7));
        all.put("taken", p -> p.event(0) + " " + p.event(1) + " " + p.event(2));
        for (int window = 0; window < WINDOWS; window++) {
            int w = window;
            all.put("place " + w, p -> ifOpen(p, w, () -> place(p, w)));
            all.put("picture " + w, p -> ifOpen(p, w, () -> picture(p, w)));
            all.put("pen " + w, p -> ifOpen(p, w, () -> pen(p, w)));
        }
        return all;
    }

    private interface Told {
        String text();
    }

    private static String ifOpen(PaneScreen p, int window, Told part) {
        return Answer.of(() -> p.visible(window)).startsWith("java") ? "not open" : part.text();
    }

    private static String order(PaneScreen p) {
        StringBuilder text = new StringBuilder();
        while (p.figure(1) > 0) {
            int first = p.figure(2);
            text.append(first).append(' ');
            p.close(first);
        }
        return text.toString();
    }

    private static String line(PaneScreen p) {
        StringBuilder text = new StringBuilder();
        while (p.figure(6) > 0) {
            text.append(p.next()).append(' ').append(p.event(0)).append(' ').append(p.event(1)).append(' ')
                    .append(p.event(2)).append('/');
        }
        return text.toString();
    }

    private static String place(PaneScreen p, int window) {
        p.raise(window, true);
        StringBuilder text = new StringBuilder();
        for (int y = 0; y < 16; y++) {
            for (int x = 0; x < 24; x++) {
                text.append(p.at(x, y) == window ? '#' : '.');
            }
        }
        return text.toString();
    }

    private static String picture(PaneScreen p, int window) {
        return Look.picture(p, window, WIDTHS[window], HEIGHTS[window]);
    }

    /** A line from the pen on tells where it is, also if it is outside of the picture. */
    private static String pen(PaneScreen p, int window) {
        p.fill(window, 0, 0, 1023, 0);
        return p.line(window, 1, 1, 9) + " " + picture(p, window);
    }

    private static void changes(String name, Consumer<PaneScreen> call, String... changed) {
        checks.about(name + " changes what its promise speaks of, and nothing else");
        for (Map.Entry<String, Function<PaneScreen, String>> part : parts.entrySet()) {
            PaneScreen p = marked();
            call.accept(p);
            boolean kept = part.getValue().apply(p).equals(part.getValue().apply(marked()));
            checks.same("keeps " + part.getKey(), kept, !List.of(changed).contains(part.getKey()));
        }
    }

    private static void windowsAndTheirOrder() {
        changes("open", p -> p.open(0, 0, 2, 2), "focus", "order", "store", "damage");
        changes("close", p -> p.close(1), "order", "store", "damage", "place 1", "picture 1", "pen 1");
        changes("close of the focus", p -> p.close(2), "focus", "order", "store", "damage", "line", "place 2",
                "picture 2", "pen 2");
        changes("move", p -> p.move(1, 6, 7), "damage", "place 1");
        changes("move to the same place", p -> p.move(0, 1, 1), "damage");
        changes("raise to the front", p -> p.raise(1, true), "order", "damage");
        changes("raise behind", p -> p.raise(0, false), "order", "damage");
        changes("raise of the first", p -> p.raise(0, true));
    }

    private static void pictures() {
        changes("plot", p -> p.plot(1, 0, 0, 8), "picture 1", "damage");
        changes("plot of no cell", p -> p.plot(1, 3, 0, 8));
        changes("fill", p -> p.fill(1, 0, 1, 33, 8), "picture 1", "damage");
        changes("fill of no cell", p -> p.fill(1, 0, 1, 32, 8));
        changes("pen", p -> p.pen(1, 2, 2), "pen 1");
        changes("line", p -> p.line(1, 2, 2, 8), "picture 1", "pen 1", "damage");
        changes("line to the pen's own place", p -> p.line(1, 1, 1, 8), "picture 1", "damage");
        changes("line outside of the picture", p -> p.line(2, -1, 9, 8), "pen 2");
        changes("scroll", p -> p.scroll(1, 1, 0), "picture 1", "damage");
        changes("scroll by nothing", p -> p.scroll(1, 0, 0), "damage");
    }

    private static void painting() {
        changes("flush", PaneScreen::flush, "screen", "painted", "damage");
    }

    private static void fillTheLine(PaneScreen p) {
        for (int code = 0; code < 11; code++) {
            p.key(code);
        }
    }

    private static void events() {
        changes("click on the first", p -> p.click(1, 1), "focus", "line");
        changes("click on the focus", p -> p.click(9, 5), "order", "line", "damage");
        changes("click on the last", p -> p.click(5, 4), "focus", "order", "line", "damage");
        changes("click on none", p -> p.click(20, 10), "focus", "line");
        changes("key", p -> p.key(3), "line");
        changes("keys until the line is full", KeptTest::fillTheLine, "line");
        changes("keys until one is dropped", p -> {
            fillTheLine(p);
            p.key(3);
        }, "line", "dropped");
        changes("next", PaneScreen::next, "line", "taken");
    }

    private static void questions() {
        changes("screen", p -> p.screen(8, 4));
        changes("picture", p -> p.picture(2, 0, 0));
        changes("at", p -> p.at(8, 4));
        changes("visible", p -> p.visible(1));
        changes("event", p -> p.event(1));
        for (int k = 0; k <= 8; k++) {
            int which = k;
            changes("figure " + which, p -> p.figure(which));
        }
    }
}
