import java.util.NoSuchElementException;

/** One method for each promise of the document: ordinary inputs, the edges it names, wrong inputs. */
public final class PromiseTest {
    private static final Class<?> ARGUMENT = IllegalArgumentException.class;
    private static final Class<?> STATE = IllegalStateException.class;
    private static final Class<?> ELEMENT = NoSuchElementException.class;
    private static final Class<?> BOUNDS = IndexOutOfBoundsException.class;
    private static final int[] NOT_WINDOWS = {-1, 8, 7, Integer.MIN_VALUE, Integer.MAX_VALUE};
    private static final int[] NOT_NEAR = {-51, 51, Integer.MIN_VALUE, Integer.MAX_VALUE};
    private static final int[] NOT_COLOURS = {-1, 256, Integer.MIN_VALUE, Integer.MAX_VALUE};

    private static final Checks checks = new Checks();

    public static void main(String[] args) {
        newObject();
        open();
        openTakesFirstStretch();
        close();
        closeAndEvents();
        move();
        raise();
        plot();
        fill();
        pen();
        line();
        scroll();
        flush();
        damageOfSeven();
        screen();
        picture();
        at();
        visible();
        click();
        clickDropsEvents();
        key();
        next();
        event();
        figure();
        severalReasons();
        checks.finish();
    }

    private static int extent(int width, int height) {
        return height * 32 + width;
    }

    private static PaneScreen withOneWindow() {
        PaneScreen p = new PaneScreen();
        p.open(0, 0, 20, 15);
        p.flush();
        return p;
    }

    private static void nextIs(PaneScreen p, int kind, int window, int one, int two) {
        String what = "event " + kind + " of window " + window;
        checks.same(what, p.figure(6) > 0, true);
        if (p.figure(6) > 0) {
            checks.same(what + " kind", p.next(), kind);
            checks.same(what + " window", p.event(0), window);
            checks.same(what + " first number", p.event(1), one);
            checks.same(what + " second number", p.event(2), two);
        }
    }

    private static void newObject() {
        PaneScreen p = new PaneScreen();
        int[] due = {-1, 0, -1, 400, 400, 0, 0, 0, 0};
        for (int k = 0; k < due.length; k++) {
            checks.same("new figure(" + k + ")", p.figure(k), due[k]);
        }
        for (int y = 0; y < 16; y++) {
            for (int x = 0; x < 24; x++) {
                checks.same("new screen", p.screen(x, y), 0);
                checks.same("new at", p.at(x, y), -1);
            }
        }
        checks.same("new flush", p.flush(), 0);
        for (int window = 0; window < 8; window++) {
            int w = window;
            checks.refused(p, "new visible", ELEMENT, () -> p.visible(w));
        }
    }

    private static void open() {
        PaneScreen p = new PaneScreen();
        checks.same("first open", p.open(2, 3, 4, 5), 0);
        checks.same("focus of the first", p.figure(0), 0);
        checks.same("damage of the first", p.figure(5), 1);
        checks.same("store behind the first", p.figure(3), 380);
        checks.same("flush of the first", p.flush(), 20);
        checks.same("second open", p.open(3, 4, 1, 1), 1);
        checks.same("second is in front", p.figure(2), 1);
        checks.same("second has the focus", p.figure(0), 1);
        checks.same("second has its cell", p.at(3, 4), 1);
        checks.same("no events", p.figure(6), 0);
        p.close(0);
        checks.same("least window again", p.open(-50, 50, 24, 1), 0);
        checks.same("open at the edges", p.open(50, -50, 1, 16), 2);
        for (int window = 3; window < 8; window++) {
            checks.same("open up to eight", p.open(0, 0, 1, 1), window);
        }
        checks.refused(p, "ninth open", STATE, () -> p.open(0, 0, 1, 1));
        checks.refused(p, "ninth open, wrong width", ARGUMENT, () -> p.open(0, 0, 0, 1));
        PaneScreen fresh = new PaneScreen();
        for (int far : NOT_NEAR) {
            checks.refused(fresh, "open x " + far, ARGUMENT, () -> fresh.open(far, 0, 1, 1));
            checks.refused(fresh, "open y " + far, ARGUMENT, () -> fresh.open(0, far, 1, 1));
        }
        for (int size : new int[] {0, -1, 25, Integer.MIN_VALUE, Integer.MAX_VALUE}) {
            checks.refused(fresh, "open width " + size, ARGUMENT, () -> fresh.open(0, 0, size, 1));
        }
        for (int size : new int[] {0, -1, 17, Integer.MIN_VALUE, Integer.MAX_VALUE}) {
            checks.refused(fresh, "open height " + size, ARGUMENT, () -> fresh.open(0, 0, 1, size));
        }
        checks.same("open of the whole screen", fresh.open(0, 0, 24, 16), 0);
        checks.same("sixteen cells are left", fresh.figure(3), 16);
        checks.refused(fresh, "open of seventeen", STATE, () -> fresh.open(0, 0, 17, 1));
        checks.same("open of the last sixteen", fresh.open(0, 0, 16, 1), 1);
        checks.same("store is full", fresh.figure(4), 0);
    }

    private static void openTakesFirstStretch() {
        PaneScreen p = new PaneScreen();
        p.open(0, 0, 10, 10);
        p.open(0, 0, 10, 10);
        p.open(0, 0, 10, 10);
        p.fill(0, 0, 0, 1023, 77);
        p.close(0);
        checks.same("free in two stretches", p.figure(3), 200);
        checks.same("longest of two", p.figure(4), 100);
        checks.refused(p, "no stretch though cells are free", STATE, () -> p.open(0, 0, 11, 10));
        checks.same("window in the first stretch", p.open(0, 0, 5, 10), 0);
        checks.same("the last stretch is whole", p.figure(4), 100);
        checks.same("old colours are gone", p.picture(0, 0, 0), 0);
        checks.same("old colours are gone at the end", p.picture(0, 4, 9), 0);
        checks.same("fifty more fit first", p.open(0, 0, 10, 5), 3);
        checks.same("the last stretch is whole still", p.figure(4), 100);
        p.close(1);
        p.close(0);
        checks.same("stretches that do not touch", p.figure(4), 100);
        p.close(3);
        checks.same("stretches that touch are one", p.figure(4), 200);
        checks.same("two hundred fit", p.open(0, 0, 20, 10), 0);
        checks.same("pen of a window opened again", p.line(0, 0, 0, 1), 1);
    }

    private static void close() {
        PaneScreen p = new PaneScreen();
        p.open(0, 0, 4, 4);
        p.open(1, 1, 4, 4);
        p.open(2, 2, 4, 4);
        p.fill(1, 0, 0, 1023, 5);
        p.flush();
        p.raise(0, true);
        p.flush();
        p.close(2);
        checks.same("focus goes to the first in the order", p.figure(0), 0);
        checks.same("closing tells nothing", p.figure(6), 0);
        checks.same("closing damages the frame", p.flush(), 16);
        checks.same("what was below is seen", p.screen(4, 4), 5);
        checks.same("nothing is below", p.screen(5, 5), 0);
        p.close(1);
        checks.same("focus stays where it was", p.figure(0), 0);
        checks.same("one is left", p.figure(1), 1);
        p.close(0);
        checks.same("no focus", p.figure(0), -1);
        checks.same("no first", p.figure(2), -1);
        checks.same("all is free", p.figure(4), 400);
        checks.refused(p, "close twice", ELEMENT, () -> p.close(0));
        for (int window : NOT_WINDOWS) {
            checks.refused(p, "close " + window, ELEMENT, () -> p.close(window));
        }
        PaneScreen q = new PaneScreen();
        q.open(0, 0, 2, 2);
        q.open(4, 0, 2, 2);
        q.click(20, 10);
        q.close(1);
        checks.same("no focus before, none after", q.figure(0), -1);
    }

    private static void closeAndEvents() {
        PaneScreen p = new PaneScreen();
        p.open(0, 0, 2, 2);
        p.open(4, 0, 2, 2);
        p.key(10);
        p.click(1, 1);
        p.key(20);
        p.click(5, 0);
        p.key(30);
        checks.same("events before", p.figure(6), 9);
        checks.same("first is taken", p.next(), PaneScreen.KEY);
        p.close(1);
        checks.same("events of the closed one are gone", p.figure(6), 4);
        checks.same("none counts as dropped", p.figure(7), 0);
        checks.same("the event taken stays", p.event(0), 1);
        checks.same("the event taken stays, number", p.event(1), 10);
        nextIs(p, PaneScreen.GOT, 0, 0, 0);
        nextIs(p, PaneScreen.CLICK, 0, 1, 1);
        nextIs(p, PaneScreen.KEY, 0, 20, 0);
        nextIs(p, PaneScreen.LOST, 0, 0, 0);
        checks.same("line is empty", p.figure(6), 0);
        p.open(4, 0, 1, 1);
        checks.same("opened again without events", p.figure(6), 0);
        p.key(40);
        p.click(0, 0);
        p.close(1);
        checks.same("the first of the line is gone too", p.figure(6), 2);
        nextIs(p, PaneScreen.GOT, 0, 0, 0);
        nextIs(p, PaneScreen.CLICK, 0, 0, 0);
        p.key(50);
        p.open(4, 0, 1, 1);
        p.key(60);
        p.close(1);
        checks.same("the first of the line is another's", p.figure(6), 1);
        nextIs(p, PaneScreen.KEY, 0, 50, 0);
    }

    private static void move() {
        PaneScreen p = new PaneScreen();
        p.open(0, 0, 3, 2);
        p.fill(0, 0, 0, 1023, 8);
        p.flush();
        p.move(0, 10, 10);
        checks.same("both frames", p.figure(5), 2);
        checks.same("both frames painted", p.flush(), 12);
        checks.same("old place", p.screen(0, 0), 0);
        checks.same("new place", p.screen(12, 11), 8);
        checks.same("window at the new place", p.at(10, 10), 0);
        p.move(0, 10, 10);
        checks.same("the same frame twice", p.figure(5), 2);
        checks.same("each cell once", p.flush(), 6);
        p.move(0, -2, -1);
        checks.same("what is on the screen alone", p.flush(), 7);
        checks.same("its last cell is seen", p.screen(0, 0), 8);
        checks.same("one cell is visible", p.visible(0), 1);
        p.move(0, -50, 50);
        checks.same("nothing of the new frame", p.figure(5), 1);
        p.flush();
        p.move(0, 50, -50);
        checks.same("nothing of both frames", p.figure(5), 0);
        int[][] besides = {{-3, 0}, {24, 0}, {0, -2}, {0, 16}};
        for (int[] place : besides) {
            p.move(0, place[0], place[1]);
            checks.same("just beside the screen", p.figure(5), 0);
        }
        checks.same("order is kept", p.figure(2), 0);
        for (int far : NOT_NEAR) {
            checks.refused(p, "move x " + far, ARGUMENT, () -> p.move(0, far, 0));
            checks.refused(p, "move y " + far, ARGUMENT, () -> p.move(0, 0, far));
        }
        for (int window : NOT_WINDOWS) {
            checks.refused(p, "move " + window, ELEMENT, () -> p.move(window, 0, 0));
        }
        PaneScreen q = new PaneScreen();
        q.open(0, 0, 4, 4);
        q.open(0, 0, 4, 4);
        q.move(0, 1, 1);
        checks.same("a move does not raise", q.figure(2), 1);
        checks.same("a move leaves the focus", q.figure(0), 1);
    }

    private static void raise() {
        PaneScreen p = new PaneScreen();
        p.open(0, 0, 4, 4);
        p.open(1, 0, 4, 4);
        p.open(2, 0, 4, 4);
        p.flush();
        checks.same("front one to the front", p.raise(2, true), false);
        checks.same("back one to the back", p.raise(0, false), false);
        checks.same("no damage", p.figure(5), 0);
        checks.same("back one to the front", p.raise(0, true), true);
        checks.same("it is in front", p.figure(2), 0);
        checks.same("the frame is damaged", p.flush(), 16);
        checks.same("focus stays", p.figure(0), 2);
        checks.same("no events", p.figure(6), 0);
        checks.same("middle one to the back", p.raise(2, false), true);
        checks.same("window 1 is before window 2", p.at(4, 0), 1);
        checks.same("window 0 is before window 1", p.at(3, 0), 0);
        checks.same("front one to the back", p.raise(0, false), true);
        checks.same("order 1, 2, 0: first", p.at(2, 0), 1);
        checks.same("order 1, 2, 0: last", p.at(0, 0), 0);
        p.close(1);
        p.close(2);
        checks.same("alone to the front", p.raise(0, true), false);
        checks.same("alone to the back", p.raise(0, false), false);
        for (int window : NOT_WINDOWS) {
            checks.refused(p, "raise " + window, ELEMENT, () -> p.raise(window, true));
            checks.refused(p, "lower " + window, ELEMENT, () -> p.raise(window, false));
        }
    }

    private static void plot() {
        PaneScreen p = new PaneScreen();
        p.open(22, 14, 4, 3);
        p.flush();
        checks.same("plot", p.plot(0, 1, 1, 255), true);
        checks.same("plotted", p.picture(0, 1, 1), 255);
        checks.same("not painted yet", p.screen(23, 15), 0);
        checks.same("one cell damaged", p.flush(), 1);
        checks.same("painted", p.screen(23, 15), 255);
        checks.same("plot outside of the screen", p.plot(0, 3, 2, 4), true);
        checks.same("plotted outside of the screen", p.picture(0, 3, 2), 4);
        checks.same("no damage outside of the screen", p.figure(5), 0);
        checks.same("plot of 0", p.plot(0, 1, 1, 0), true);
        checks.same("plotted 0", p.picture(0, 1, 1), 0);
        p.flush();
        int[][] none = {{4, 0}, {0, 3}, {-1, 0}, {0, -1}, {Integer.MAX_VALUE, 0}, {0, Integer.MIN_VALUE}};
        for (int[] cell : none) {
            String before = Seen.of(p);
            checks.same("plot of no cell", p.plot(0, cell[0], cell[1], 1), false);
            checks.same("plot of no cell changes nothing", Seen.of(p), before);
        }
        for (int colour : NOT_COLOURS) {
            checks.refused(p, "plot colour " + colour, ARGUMENT, () -> p.plot(0, 0, 0, colour));
            checks.refused(p, "plot of no cell, colour " + colour, ARGUMENT, () -> p.plot(0, 4, 3, colour));
        }
        for (int window : NOT_WINDOWS) {
            checks.refused(p, "plot " + window, ELEMENT, () -> p.plot(window, 0, 0, 1));
        }
        p.open(20, 10, 4, 6);
        p.flush();
        p.plot(0, 0, 0, 9);
        checks.same("a hidden cell is damaged too", p.flush(), 1);
        checks.same("the window in front is seen", p.screen(22, 14), 0);
    }

    private static void fill() {
        PaneScreen p = new PaneScreen();
        p.open(0, 0, 6, 5);
        p.flush();
        checks.same("fill inside", p.fill(0, 1, 2, extent(3, 2), 7), 6);
        for (int v = 0; v < 5; v++) {
            for (int u = 0; u < 6; u++) {
                boolean in = u >= 1 && u < 4 && v >= 2 && v < 4;
                checks.same("filled " + u + ", " + v, p.picture(0, u, v), in ? 7 : 0);
            }
        }
        checks.same("one rectangle", p.figure(5), 1);
        checks.same("filled cells are painted", p.flush(), 6);
        checks.same("painted first", p.screen(1, 2), 7);
        checks.same("painted last", p.screen(3, 3), 7);
        checks.same("fill over the left top", p.fill(0, -2, -3, extent(4, 4), 1), 2);
        checks.same("cells of the left top", p.flush(), 2);
        checks.same("fill over the right bottom", p.fill(0, 5, 3, 1023, 2), 2);
        checks.same("cells of the right bottom", p.flush(), 2);
        checks.same("fill all", p.fill(0, 0, 0, 1023, 3), 30);
        p.flush();
        checks.same("fill of no width", p.fill(0, 0, 0, extent(0, 9), 4), 0);
        checks.same("fill of no height", p.fill(0, 0, 0, extent(9, 0), 4), 0);
        checks.same("fill of nothing", p.fill(0, 0, 0, 0, 4), 0);
        checks.same("fill behind", p.fill(0, 6, 0, 1023, 4), 0);
        checks.same("fill below", p.fill(0, 0, 5, 1023, 4), 0);
        checks.same("fill farther behind", p.fill(0, 8, 0, 1023, 4), 0);
        checks.same("fill farther below", p.fill(0, 0, 8, 1023, 4), 0);
        checks.same("fill farther before", p.fill(0, -40, 0, 1023, 4), 0);
        checks.same("fill farther above", p.fill(0, 0, -40, 1023, 4), 0);
        checks.same("fill before", p.fill(0, -31, 0, 1023, 4), 0);
        checks.same("fill just before the end", p.fill(0, -30, -30, 1023, 3), 1);
        checks.same("fill at -50", p.fill(0, -50, -50, 1023, 4), 0);
        checks.same("fill at 50", p.fill(0, 50, 50, 1023, 4), 0);
        checks.same("one cell was damaged", p.flush(), 1);
        checks.same("nothing was filled", p.picture(0, 0, 0), 3);
        fillOffScreen();
        for (int far : NOT_NEAR) {
            checks.refused(p, "fill u " + far, ARGUMENT, () -> p.fill(0, far, 0, 33, 0));
            checks.refused(p, "fill v " + far, ARGUMENT, () -> p.fill(0, 0, far, 33, 0));
        }
        for (int wrong : new int[] {-1, 1024, Integer.MIN_VALUE, Integer.MAX_VALUE}) {
            checks.refused(p, "fill extent " + wrong, ARGUMENT, () -> p.fill(0, 0, 0, wrong, 0));
        }
        for (int colour : NOT_COLOURS) {
            checks.refused(p, "fill colour " + colour, ARGUMENT, () -> p.fill(0, 0, 0, 33, colour));
            checks.refused(p, "fill of nothing, colour " + colour, ARGUMENT, () -> p.fill(0, 0, 0, 0, colour));
        }
        for (int window : NOT_WINDOWS) {
            checks.refused(p, "fill " + window, ELEMENT, () -> p.fill(window, 0, 0, 33, 0));
        }
    }

    private static void fillOffScreen() {
        PaneScreen p = new PaneScreen();
        p.open(-3, -3, 6, 6);
        p.flush();
        checks.same("fill off the screen", p.fill(0, 0, 0, extent(3, 6), 5), 18);
        checks.same("no damage off the screen", p.figure(5), 0);
        checks.same("picture off the screen", p.picture(0, 2, 5), 5);
        checks.same("fill half on the screen", p.fill(0, 2, 2, extent(2, 3), 6), 6);
        checks.same("half of it is painted", p.flush(), 2);
        checks.same("painted half", p.screen(0, 1), 6);
    }

    private static void pen() {
        PaneScreen p = withOneWindow();
        String before = Seen.of(p);
        p.pen(0, 3, 2);
        checks.same("the pen shows nothing", Seen.of(p), before);
        checks.same("line from the pen", p.line(0, 5, 2, 1), 3);
        checks.same("not from the first pen", p.picture(0, 2, 2), 0);
        checks.same("begins at the pen", p.picture(0, 3, 2), 1);
        p.open(0, 0, 3, 3);
        p.pen(1, -50, 50);
        p.pen(0, 50, -50);
        checks.same("each has its own pen", p.line(1, -50, 50, 1), 0);
        checks.same("own pen moved on", p.line(0, 50, -50, 1), 0);
        for (int far : NOT_NEAR) {
            checks.refused(p, "pen u " + far, ARGUMENT, () -> p.pen(0, far, 0));
            checks.refused(p, "pen v " + far, ARGUMENT, () -> p.pen(0, 0, far));
        }
        for (int window : NOT_WINDOWS) {
            checks.refused(p, "pen " + window, ELEMENT, () -> p.pen(window, 0, 0));
        }
        p.pen(1, 2, 0);
        p.close(1);
        p.open(0, 0, 3, 3);
        checks.same("a new window's pen is at 0, 0", p.line(1, 0, 0, 6), 1);
        checks.same("not where the closed one's was", p.picture(1, 2, 0), 0);
    }

    private static void line() {
        lineOf("gentle", new int[] {0, 0, 5, 2}, new int[] {0, 0, 1, 0, 2, 1, 3, 1, 4, 2, 5, 2});
        // Halves go up whatever the sign, which a quotient cut towards 0 would get wrong.
        lineOf("forth halves", new int[] {0, 0, 4, 2}, new int[] {0, 0, 1, 1, 2, 1, 3, 2, 4, 2});
        lineOf("back halves", new int[] {4, 2, 0, 0}, new int[] {4, 2, 3, 2, 2, 1, 1, 1, 0, 0});
        lineOf("steep", new int[] {2, 0, 1, 4}, new int[] {2, 0, 2, 1, 2, 2, 1, 3, 1, 4});
        lineOf("level", new int[] {1, 3, 4, 3}, new int[] {1, 3, 2, 3, 3, 3, 4, 3});
        lineOf("upward", new int[] {3, 4, 3, 1}, new int[] {3, 4, 3, 3, 3, 2, 3, 1});
        lineOf("point", new int[] {3, 4, 3, 4}, new int[] {3, 4});
        lineOf("comes in", new int[] {-3, -3, 2, 2}, new int[] {0, 0, 1, 1, 2, 2});
        lineOf("passes through", new int[] {-50, 1, 50, 1},
                new int[] {0, 1, 1, 1, 2, 1, 3, 1, 4, 1, 5, 1, 6, 1});
        lineOf("stays outside", new int[] {-50, -50, 50, -1}, new int[] {});
        lineOf("point outside", new int[] {7, 0, 7, 0}, new int[] {});
        PaneScreen p = withOneWindow();
        p.line(0, 3, 3, 1);
        checks.same("the pen is at the end", p.line(0, 3, 5, 2), 3);
        checks.same("end of the first line", p.picture(0, 3, 3), 2);
        p.line(0, -9, -9, 1);
        checks.same("the pen is at the end outside too", p.line(0, -9, 0, 2), 0);
        for (int far : NOT_NEAR) {
            checks.refused(p, "line u " + far, ARGUMENT, () -> p.line(0, far, 0, 0));
            checks.refused(p, "line v " + far, ARGUMENT, () -> p.line(0, 0, far, 0));
        }
        for (int colour : NOT_COLOURS) {
            checks.refused(p, "line colour " + colour, ARGUMENT, () -> p.line(0, 5, 5, colour));
        }
        for (int window : NOT_WINDOWS) {
            checks.refused(p, "line " + window, ELEMENT, () -> p.line(window, 0, 0, 0));
        }
        checks.same("the pen was not moved by what was refused", p.line(0, -9, -5, 2), 0);
    }

    private static void lineOf(String name, int[] ends, int[] cells) {
        PaneScreen p = new PaneScreen();
        p.open(2, 1, 7, 6);
        p.flush();
        p.pen(0, ends[0], ends[1]);
        checks.same("line " + name, p.line(0, ends[2], ends[3], 9), cells.length / 2);
        int left = 99;
        int top = 99;
        int right = -1;
        int bottom = -1;
        int[] due = new int[7 * 6];
        for (int k = 0; k < cells.length; k += 2) {
            due[cells[k + 1] * 7 + cells[k]] = 9;
            left = Math.min(left, cells[k]);
            right = Math.max(right, cells[k]);
            top = Math.min(top, cells[k + 1]);
            bottom = Math.max(bottom, cells[k + 1]);
        }
        for (int v = 0; v < 6; v++) {
            for (int u = 0; u < 7; u++) {
                checks.same("line " + name + " at " + u + ", " + v, p.picture(0, u, v), due[v * 7 + u]);
            }
        }
        boolean any = cells.length > 0;
        checks.same("line " + name + " rectangles", p.figure(5), any ? 1 : 0);
        checks.same("line " + name + " painted", p.flush(), any ? (right - left + 1) * (bottom - top + 1) : 0);
        if (any) {
            checks.same("line " + name + " on the screen", p.screen(2 + cells[0], 1 + cells[1]), 9);
        }
    }

    private static void scroll() {
        int[][] ways = {{0, 0}, {1, 0}, {-1, 0}, {0, 1}, {0, -1}, {2, -1}, {-2, 1}, {-1, -1}, {3, 2},
            {4, 0}, {0, 3}, {-4, 0}, {0, -3}, {50, 50}, {-50, -50}, {50, -50}};
        for (int[] way : ways) {
            PaneScreen p = new PaneScreen();
            p.open(0, 0, 2, 2);
            p.open(5, 5, 4, 3);
            p.open(0, 0, 2, 2);
            p.fill(0, 0, 0, 1023, 200);
            p.fill(2, 0, 0, 1023, 201);
            for (int v = 0; v < 3; v++) {
                for (int u = 0; u < 4; u++) {
                    p.plot(1, u, v, 10 * v + u + 1);
                }
            }
            p.flush();
            p.scroll(1, way[0], way[1]);
            for (int v = 0; v < 3; v++) {
                for (int u = 0; u < 4; u++) {
                    int fromU = u + way[0];
                    int fromV = v + way[1];
                    boolean found = fromU >= 0 && fromU < 4 && fromV >= 0 && fromV < 3;
                    checks.same("scroll " + way[0] + ", " + way[1], p.picture(1, u, v),
                            found ? 10 * fromV + fromU + 1 : 0);
                }
            }
            checks.same("others stay before", p.picture(0, 1, 1), 200);
            checks.same("others stay behind", p.picture(2, 0, 0), 201);
            checks.same("scroll damages one rectangle", p.figure(5), 1);
            checks.same("scroll damages the frame", p.flush(), 12);
        }
        PaneScreen p = withOneWindow();
        for (int far : NOT_NEAR) {
            checks.refused(p, "scroll u " + far, ARGUMENT, () -> p.scroll(0, far, 0));
            checks.refused(p, "scroll v " + far, ARGUMENT, () -> p.scroll(0, 0, far));
        }
        for (int window : NOT_WINDOWS) {
            checks.refused(p, "scroll " + window, ELEMENT, () -> p.scroll(window, 0, 0));
        }
    }

    private static void flush() {
        PaneScreen p = withOneWindow();
        p.fill(0, 0, 0, extent(3, 3), 1);
        p.fill(0, 2, 2, extent(3, 3), 2);
        checks.same("two rectangles", p.figure(5), 2);
        checks.same("the common cell counts once", p.flush(), 17);
        checks.same("the damage is empty", p.figure(5), 0);
        checks.same("a second flush paints nothing", p.flush(), 0);
        checks.same("the common cell", p.screen(2, 2), 2);
        p.open(0, 0, 2, 2);
        p.fill(1, 0, 0, 1023, 7);
        p.flush();
        checks.same("front one is seen", p.screen(1, 1), 7);
        p.fill(0, 0, 0, extent(3, 3), 4);
        checks.same("hidden cells are painted too", p.flush(), 9);
        checks.same("front one is seen still", p.screen(0, 0), 7);
        checks.same("back one beside it", p.screen(2, 2), 4);
        p.close(0);
        checks.same("frame of the closed one", p.flush(), 300);
        checks.same("0 where none is", p.screen(2, 2), 0);
        checks.same("front one remains", p.screen(0, 0), 7);
        checks.same("in all", p.figure(8), 300 + 17 + 4 + 9 + 300);
        onlyDamageIsPainted();
    }

    private static void onlyDamageIsPainted() {
        PaneScreen p = new PaneScreen();
        p.open(-1, -1, 3, 3);
        p.flush();
        p.fill(0, 0, 0, 1023, 5);
        checks.same("screen waits for the flush", p.screen(0, 0), 0);
        checks.same("four of nine cells", p.flush(), 4);
        checks.same("painted", p.screen(1, 1), 5);
        checks.same("not in the damage", p.screen(2, 2), 0);
    }

    private static void damageOfSeven() {
        PaneScreen p = withOneWindow();
        p.fill(0, 0, 0, 1023, 3);
        p.flush();
        for (int k = 0; k < 6; k++) {
            p.plot(0, 3 + 2 * k, 4 + k % 2, 9);
            checks.same("rectangles", p.figure(5), k + 1);
        }
        p.plot(0, 5, 8, 9);
        checks.same("seven become one", p.figure(5), 1);
        joinedFrom(new int[] {3, 3, 4, 9, 8, 5, 5, 12, 12, 6, 7, 7, 6, 6}, 10, 10);
        joinedFrom(new int[] {7, 7, 4, 9, 8, 5, 5, 12, 12, 6, 3, 3, 6, 6}, 10, 10);
        joinedFrom(new int[] {6, 6, 4, 9, 8, 5, 5, 8, 8, 6, 3, 7, 12, 12}, 10, 8);
        joinedFrom(new int[] {6, 6, 4, 9, 8, 5, 5, 8, 12, 12, 5, 7, 3, 3}, 10, 10);
        p.plot(0, 19, 14, 9);
        checks.same("and the list goes on", p.figure(5), 2);
        checks.same("least rectangle of the seven, and one", p.flush(), 11 * 5 + 1);
        PaneScreen q = withOneWindow();
        for (int k = 0; k < 6; k++) {
            q.plot(0, 10, 10, 1);
        }
        checks.same("the same six times", q.figure(5), 6);
        q.move(0, -50, -50);
        checks.same("the seventh is the old frame", q.figure(5), 1);
        checks.same("the old frame holds all", q.flush(), 300);
        for (int k = 0; k < 7; k++) {
            q.plot(0, 0, 0, k);
        }
        checks.same("nothing on the screen, no damage", q.figure(5), 0);
        q.open(0, 0, 1, 1);
        for (int k = 0; k < 5; k++) {
            q.plot(1, 0, 0, k);
        }
        q.plot(0, 0, 0, 1);
        checks.same("what is off the screen is no seventh", q.figure(5), 6);
        PaneScreen r = new PaneScreen();
        r.open(22, 14, 10, 10);
        for (int k = 0; k < 5; k++) {
            r.plot(0, 0, 0, 1);
        }
        r.plot(0, 1, 1, 1);
        checks.same("clipped before it is joined", r.figure(5), 1);
        checks.same("joined and clipped", r.flush(), 4);
    }

    private static void joinedFrom(int[] cells, int width, int height) {
        PaneScreen p = withOneWindow();
        for (int k = 0; k < cells.length; k += 2) {
            p.plot(0, cells[k], cells[k + 1], 9);
        }
        checks.same("seven cells become one rectangle", p.figure(5), 1);
        checks.same("the least that holds them", p.flush(), width * height);
    }

    private static void screen() {
        PaneScreen p = new PaneScreen();
        p.open(23, 15, 1, 1);
        p.plot(0, 0, 0, 255);
        p.flush();
        checks.same("last cell", p.screen(23, 15), 255);
        checks.same("first cell", p.screen(0, 0), 0);
        p.close(0);
        checks.same("stays until the flush", p.screen(23, 15), 255);
        offScreen("screen", p, 0);
    }

    private static void offScreen(String name, PaneScreen p, int call) {
        int[][] cells = {{-1, 0}, {0, -1}, {24, 0}, {0, 16}, {16, 23}, {Integer.MIN_VALUE, 0}, {0, Integer.MIN_VALUE},
            {Integer.MAX_VALUE, 0}, {0, Integer.MAX_VALUE}};
        for (int[] cell : cells) {
            checks.refused(p, name + " " + cell[0] + ", " + cell[1], BOUNDS, () -> {
                if (call == 0) {
                    p.screen(cell[0], cell[1]);
                } else if (call == 1) {
                    p.at(cell[0], cell[1]);
                } else {
                    p.click(cell[0], cell[1]);
                }
            });
        }
    }

    private static void picture() {
        PaneScreen p = new PaneScreen();
        p.open(-50, -50, 3, 2);
        p.open(0, 0, 2, 3);
        for (int v = 0; v < 2; v++) {
            for (int u = 0; u < 3; u++) {
                p.plot(0, u, v, 1 + u + 3 * v);
                p.plot(1, v, u, 101 + u + 3 * v);
            }
        }
        for (int v = 0; v < 2; v++) {
            for (int u = 0; u < 3; u++) {
                checks.same("picture of 0", p.picture(0, u, v), 1 + u + 3 * v);
                checks.same("picture of 1", p.picture(1, v, u), 101 + u + 3 * v);
            }
        }
        p.move(0, 5, 5);
        p.scroll(1, 9, 9);
        p.close(1);
        checks.same("a window keeps its picture", p.picture(0, 2, 1), 6);
        int[][] none = {{3, 0}, {0, 2}, {-1, 0}, {0, -1}, {Integer.MAX_VALUE, 0}, {0, Integer.MIN_VALUE}};
        for (int[] cell : none) {
            checks.refused(p, "picture " + cell[0] + ", " + cell[1], BOUNDS, () -> p.picture(0, cell[0], cell[1]));
        }
        for (int window : NOT_WINDOWS) {
            checks.refused(p, "picture " + window, ELEMENT, () -> p.picture(window, 0, 0));
        }
    }

    private static void at() {
        PaneScreen p = new PaneScreen();
        p.open(2, 2, 3, 2);
        p.open(4, 3, 2, 2);
        checks.same("before the frame", p.at(1, 2), -1);
        checks.same("above the frame", p.at(2, 1), -1);
        checks.same("first of the frame", p.at(2, 2), 0);
        checks.same("covered by both", p.at(4, 3), 1);
        checks.same("last of the front one", p.at(5, 4), 1);
        checks.same("behind the frame", p.at(5, 2), -1);
        checks.same("below the frame", p.at(2, 4), -1);
        p.raise(0, true);
        checks.same("covered by both, other order", p.at(4, 3), 0);
        checks.same("without a flush", p.screen(4, 3), 0);
        offScreen("at", p, 1);
    }

    private static void visible() {
        PaneScreen p = new PaneScreen();
        p.open(0, 0, 4, 4);
        checks.same("whole", p.visible(0), 16);
        p.open(2, 2, 4, 4);
        checks.same("partly covered", p.visible(0), 12);
        checks.same("front", p.visible(1), 16);
        p.move(1, 22, 14);
        checks.same("partly outside", p.visible(1), 4);
        p.move(1, 0, 0);
        checks.same("covered", p.visible(0), 0);
        p.move(1, -4, 0);
        checks.same("outside", p.visible(1), 0);
        for (int window : NOT_WINDOWS) {
            checks.refused(p, "visible " + window, ELEMENT, () -> p.visible(window));
        }
    }

    private static void click() {
        PaneScreen p = new PaneScreen();
        checks.same("click on nothing without focus", p.click(0, 0), -1);
        checks.same("tells nothing", p.figure(6), 0);
        p.open(-1, -2, 6, 6);
        p.open(2, 1, 4, 4);
        p.flush();
        checks.same("click on the focus", p.click(5, 4), 1);
        checks.same("no damage when in front", p.figure(5), 0);
        nextIs(p, PaneScreen.CLICK, 1, 3, 3);
        checks.same("CLICK alone", p.figure(6), 0);
        checks.same("click on another", p.click(0, 0), 0);
        checks.same("it has the focus", p.figure(0), 0);
        checks.same("it is in front", p.figure(2), 0);
        checks.same("its frame is damaged", p.flush(), 20);
        nextIs(p, PaneScreen.LOST, 1, 0, 0);
        nextIs(p, PaneScreen.GOT, 0, 0, 0);
        nextIs(p, PaneScreen.CLICK, 0, 1, 2);
        checks.same("three events", p.figure(6), 0);
        p.raise(0, false);
        p.flush();
        checks.same("click on the focus behind", p.click(0, 1), 0);
        checks.same("it comes in front", p.figure(2), 0);
        checks.same("and is damaged", p.figure(5), 1);
        nextIs(p, PaneScreen.CLICK, 0, 1, 3);
        checks.same("CLICK alone again", p.figure(6), 0);
        checks.same("click on nothing", p.click(23, 15), -1);
        checks.same("no focus", p.figure(0), -1);
        checks.same("the order stays", p.figure(2), 0);
        nextIs(p, PaneScreen.LOST, 0, 0, 0);
        checks.same("LOST alone", p.figure(6), 0);
        checks.same("click on nothing again", p.click(23, 15), -1);
        checks.same("nothing is lost twice", p.figure(6), 0);
        checks.same("click without focus", p.click(5, 4), 1);
        nextIs(p, PaneScreen.GOT, 1, 0, 0);
        nextIs(p, PaneScreen.CLICK, 1, 3, 3);
        checks.same("two events", p.figure(6), 0);
        offScreen("click", p, 2);
    }

    private static void clickDropsEvents() {
        PaneScreen p = new PaneScreen();
        p.open(0, 0, 2, 2);
        p.open(4, 0, 2, 2);
        for (int k = 0; k < 10; k++) {
            p.key(k);
        }
        checks.same("click with place for two", p.click(0, 0), 0);
        checks.same("twelve stand", p.figure(6), 12);
        checks.same("one is dropped", p.figure(7), 1);
        checks.same("focus all the same", p.figure(0), 0);
        p.click(4, 0);
        checks.same("three more are dropped", p.figure(7), 4);
        checks.same("raised all the same", p.figure(2), 1);
        p.click(20, 10);
        checks.same("LOST is dropped", p.figure(7), 5);
        checks.same("focus is gone all the same", p.figure(0), -1);
        for (int k = 0; k < 10; k++) {
            nextIs(p, PaneScreen.KEY, 1, k, 0);
        }
        nextIs(p, PaneScreen.LOST, 1, 0, 0);
        nextIs(p, PaneScreen.GOT, 0, 0, 0);
        checks.same("the dropped do not come back", p.figure(6), 0);
    }

    private static void key() {
        PaneScreen p = new PaneScreen();
        checks.same("key without focus", p.key(5), false);
        checks.same("tells nothing", p.figure(6), 0);
        p.open(0, 0, 1, 1);
        p.open(1, 1, 1, 1);
        int[] codes = {0, 65, -1, Integer.MIN_VALUE, Integer.MAX_VALUE};
        for (int code : codes) {
            checks.same("key " + code, p.key(code), true);
            nextIs(p, PaneScreen.KEY, 1, code, 0);
        }
        for (int k = 0; k < 12; k++) {
            p.key(k);
        }
        checks.same("twelve stand", p.figure(6), 12);
        checks.same("key that is dropped", p.key(99), true);
        checks.same("twelve still", p.figure(6), 12);
        checks.same("one dropped", p.figure(7), 1);
        p.click(20, 10);
        checks.same("key after the focus is gone", p.key(1), false);
        checks.same("is not dropped", p.figure(7), 2);
    }

    private static void next() {
        PaneScreen p = new PaneScreen();
        checks.refused(p, "next of none", ELEMENT, p::next);
        p.open(0, 0, 2, 2);
        p.key(1);
        p.click(1, 0);
        p.key(2);
        checks.same("three stand", p.figure(6), 3);
        checks.same("kind of the first", p.next(), PaneScreen.KEY);
        checks.same("two stand", p.figure(6), 2);
        nextIs(p, PaneScreen.CLICK, 0, 1, 0);
        nextIs(p, PaneScreen.KEY, 0, 2, 0);
        checks.refused(p, "next after the last", ELEMENT, p::next);
        checks.same("the last one stays", p.event(1), 2);
    }

    private static void event() {
        PaneScreen p = new PaneScreen();
        int[] wrong = {-1, 3, Integer.MIN_VALUE, Integer.MAX_VALUE};
        for (int what : new int[] {0, 1, 2, -1, 3}) {
            checks.refused(p, "event before any, " + what, STATE, () -> p.event(what));
        }
        p.open(3, 3, 4, 4);
        p.key(7);
        checks.refused(p, "event that stands only", STATE, () -> p.event(0));
        p.click(5, 4);
        p.next();
        checks.same("window", p.event(0), 0);
        checks.same("code", p.event(1), 7);
        checks.same("0", p.event(2), 0);
        p.next();
        checks.same("u", p.event(1), 2);
        checks.same("v", p.event(2), 1);
        p.key(8);
        p.move(0, 0, 0);
        p.close(0);
        checks.same("still u", p.event(1), 2);
        checks.same("still v", p.event(2), 1);
        for (int what : wrong) {
            checks.refused(p, "event " + what, ARGUMENT, () -> p.event(what));
        }
    }

    private static void figure() {
        PaneScreen p = new PaneScreen();
        p.open(0, 0, 5, 4);
        p.open(5, 5, 10, 3);
        p.open(9, 9, 7, 7);
        p.raise(0, true);
        p.close(1);
        p.flush();
        p.plot(0, 0, 0, 1);
        p.plot(0, 1, 0, 1);
        for (int k = 0; k < 14; k++) {
            p.key(k);
        }
        int[] due = {2, 2, 0, 400 - 20 - 49, 400 - 20 - 30 - 49, 2, 12, 2, 20 + 30 + 49};
        for (int k = 0; k < due.length; k++) {
            checks.same("figure(" + k + ")", p.figure(k), due[k]);
        }
        for (int k : new int[] {-1, 9, Integer.MIN_VALUE, Integer.MAX_VALUE}) {
            checks.refused(p, "figure(" + k + ")", ARGUMENT, () -> p.figure(k));
        }
    }

    private static void severalReasons() {
        PaneScreen p = new PaneScreen();
        checks.refused(p, "move: window first", ELEMENT, () -> p.move(0, 99, 99));
        checks.refused(p, "plot: window first", ELEMENT, () -> p.plot(0, 0, 0, 999));
        checks.refused(p, "fill: window first", ELEMENT, () -> p.fill(0, 99, 99, -1, 999));
        checks.refused(p, "pen: window first", ELEMENT, () -> p.pen(0, 99, 99));
        checks.refused(p, "line: window first", ELEMENT, () -> p.line(0, 99, 99, 999));
        checks.refused(p, "scroll: window first", ELEMENT, () -> p.scroll(0, 99, 99));
        checks.refused(p, "picture: window first", ELEMENT, () -> p.picture(0, -1, -1));
        checks.refused(p, "event: state first", STATE, () -> p.event(99));
        p.open(0, 0, 24, 16);
        checks.refused(p, "open: argument first", ARGUMENT, () -> p.open(51, 0, 24, 16));
    }
}
