import java.util.NoSuchElementException;
import java.util.function.Supplier;

/** Every "not a .. b" of the document: a and b are allowed, what is beside them is refused and changes nothing. */
public final class RangesTest {
    private static final Class<?> ARGUMENT = IllegalArgumentException.class;
    private static final Class<?> ELEMENT = NoSuchElementException.class;
    private static final Class<?> BOUNDS = IndexOutOfBoundsException.class;
    private static final int ROW_OF_ONE = 33;

    private static final Checks checks = new Checks();
    private static final Twins twins = new Twins(checks);

    private interface CallWith {
        void on(PaneScreen p, int value);
    }

    public static void main(String[] args) {
        open();
        move();
        plot();
        fill();
        penAndLine();
        scroll();
        cellsOfTheScreen();
        cellsOfAPicture();
        eventAndFigure();
        windows();
        checks.finish();
    }

    private static void range(int low, int high, Class<?> refusal, Supplier<PaneScreen> state, CallWith call) {
        for (int value : new int[] {low, high}) {
            PaneScreen p = state.get();
            checks.allowed("with " + value, () -> call.on(p, value));
        }
        for (int value : new int[] {low - 1, high + 1, Integer.MIN_VALUE, Integer.MAX_VALUE}) {
            twins.refused("with " + value, refusal, state, p -> call.on(p, value));
        }
    }

    private static void near(CallWith call) {
        range(-50, 50, ARGUMENT, States::busy, call);
    }

    private static void colour(CallWith call) {
        range(0, 255, ARGUMENT, States::busy, call);
    }

    private static void open() {
        checks.about("Promise 2, open: x is not -50 .. 50");
        near((p, value) -> p.open(value, 0, 1, 1));
        checks.about("Promise 2, open: y is not -50 .. 50");
        near((p, value) -> p.open(0, value, 1, 1));
        checks.about("Promise 2, open: width not 1 .. 24");
        range(1, 24, ARGUMENT, States::busy, (p, value) -> p.open(0, 0, value, 1));
        checks.about("Promise 2, open: height not 1 .. 16");
        range(1, 16, ARGUMENT, States::busy, (p, value) -> p.open(0, 0, 1, value));
    }

    private static void move() {
        checks.about("Promise 4, move: x is not -50 .. 50");
        near((p, value) -> p.move(0, value, 0));
        checks.about("Promise 4, move: y is not -50 .. 50");
        near((p, value) -> p.move(0, 0, value));
    }

    private static void plot() {
        checks.about("Promise 6, plot: colour is not 0 .. 255");
        colour((p, value) -> p.plot(0, 1, 0, value));
        checks.about("Promise 6, plot: colour is not 0 .. 255, with a cell that there is not");
        colour((p, value) -> p.plot(0, 6, 0, value));
    }

    private static void fill() {
        checks.about("Promise 7, fill: u is not -50 .. 50");
        near((p, value) -> p.fill(0, value, 0, ROW_OF_ONE, 1));
        checks.about("Promise 7, fill: v is not -50 .. 50");
        near((p, value) -> p.fill(0, 0, value, ROW_OF_ONE, 1));
        checks.about("Promise 7, fill: extent not 0 .. 1023");
        range(0, 1023, ARGUMENT, States::busy, (p, value) -> p.fill(0, 0, 0, value, 1));
        checks.about("Promise 7, fill: colour not 0 .. 255");
        colour((p, value) -> p.fill(0, 0, 0, ROW_OF_ONE, value));
        checks.about("Promise 7, fill: colour not 0 .. 255, with no cell to fill");
        colour((p, value) -> p.fill(0, 0, 0, 0, value));
    }

    private static void penAndLine() {
        checks.about("Promise 8, pen: u is not -50 .. 50");
        near((p, value) -> p.pen(0, value, 0));
        checks.about("Promise 8, pen: v is not -50 .. 50");
        near((p, value) -> p.pen(0, 0, value));
        checks.about("Promise 9, line: u is not -50 .. 50");
        near((p, value) -> p.line(0, value, 0, 1));
        checks.about("Promise 9, line: v is not -50 .. 50");
        near((p, value) -> p.line(0, 0, value, 1));
        checks.about("Promise 9, line: colour not 0 .. 255");
        colour((p, value) -> p.line(0, 3, 3, value));
    }

    private static void scroll() {
        checks.about("Promise 10, scroll: u is not -50 .. 50");
        near((p, value) -> p.scroll(0, value, 0));
        checks.about("Promise 10, scroll: v is not -50 .. 50");
        near((p, value) -> p.scroll(0, 0, value));
    }

    private static void columnsAndRows(String call, CallWith onColumn, CallWith onRow) {
        checks.about(call + ": there is no such cell, x");
        range(0, 23, BOUNDS, States::busy, onColumn);
        checks.about(call + ": there is no such cell, y");
        range(0, 15, BOUNDS, States::busy, onRow);
    }

    private static void cellsOfTheScreen() {
        columnsAndRows("Promise 12, screen", (p, value) -> p.screen(value, 15), (p, value) -> p.screen(23, value));
        columnsAndRows("Promise 14, at", (p, value) -> p.at(value, 15), (p, value) -> p.at(23, value));
        columnsAndRows("Promise 16, click", (p, value) -> p.click(value, 15), (p, value) -> p.click(23, value));
        columnsAndRows("Promise 16, click", (p, value) -> p.click(value, 0), (p, value) -> p.click(0, value));
    }

    private static void cellsOfAPicture() {
        checks.about("Promise 13, picture: there is no such cell, u");
        range(0, 5, BOUNDS, States::busy, (p, value) -> p.picture(0, value, 4));
        checks.about("Promise 13, picture: there is no such cell, v");
        range(0, 4, BOUNDS, States::busy, (p, value) -> p.picture(0, 5, value));
    }

    private static void eventAndFigure() {
        checks.about("Promise 19, event: what is none of these");
        range(0, 2, ARGUMENT, States::busy, PaneScreen::event);
        checks.about("Promise 20, figure: k is none of these");
        range(0, 8, ARGUMENT, States::busy, PaneScreen::figure);
    }

    private static void windows() {
        for (WindowCall call : WindowCall.values()) {
            checks.about("Terms, windows 0 .. 7: " + call);
            range(0, 7, ELEMENT, States::allOpen, call::on);
        }
    }
}
