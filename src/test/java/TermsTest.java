/** The document's "Terms": each sentence that names a boundary, on both sides of it. */
public final class TermsTest {
    private static final Class<?> STATE = IllegalStateException.class;
    private static final Class<?> BOUNDS = IndexOutOfBoundsException.class;

    private static final Checks checks = new Checks();

    public static void main(String[] args) {
        cellsOfTheScreen();
        coloursAtFirst();
        leastAndGreatestColour();
        eightWindows();
        widthAndHeight();
        cellsOfAPicture();
        cellsOutsideOfTheScreen();
        frame();
        penAtFirst();
        firstInTheOrder();
        cellsOfTheStore();
        stretchOfItsOwn();
        stretchThatBeginsFirst();
        stretchesThatTouch();
        stretchIsKept();
        sixRectangles();
        partOnTheScreen();
        nothingOnTheScreen();
        leastRectangle();
        seventhOfSeveralCells();
        joinedWithinTheScreen();
        focus();
        twelveEvents();
        theNewEventIsDropped();
        roomInTheLine();
        callsOfAnObject();
        checks.finish();
    }

    private static void cellsOfTheScreen() {
        checks.about("The screen has cells (x, y), x 0 .. 23, y 0 .. 15");
        for (int[] cell : new int[][] {{0, 0}, {23, 0}, {0, 15}, {23, 15}}) {
            PaneScreen p = new PaneScreen();
            p.open(cell[0], cell[1], 1, 1);
            p.plot(0, 0, 0, 9);
            checks.same("a corner is visible", p.visible(0), 1);
            checks.same("a corner is painted", p.flush(), 1);
            checks.same("a corner's colour", p.screen(cell[0], cell[1]), 9);
        }
        int[][] besides = {{-1, 0}, {0, -1}, {24, 0}, {23, -1}, {-1, 15}, {0, 16}, {24, 15}, {23, 16}};
        for (int[] cell : besides) {
            PaneScreen p = new PaneScreen();
            p.open(cell[0], cell[1], 1, 1);
            p.plot(0, 0, 0, 9);
            checks.same("beside a corner nothing is visible", p.visible(0), 0);
            checks.same("beside a corner nothing is painted", p.flush(), 0);
            checks.refused("beside a corner there is no cell", BOUNDS, () -> p.screen(cell[0], cell[1]));
        }
    }

    private static void coloursAtFirst() {
        checks.about("Each cell of the screen has a colour, at first 0");
        PaneScreen p = new PaneScreen();
        for (int y = 0; y < 16; y++) {
            for (int x = 0; x < 24; x++) {
                checks.same("at first " + x + ", " + y, p.screen(x, y), 0);
            }
        }
    }

    private static void leastAndGreatestColour() {
        checks.about("A colour is 0 .. 255");
        PaneScreen p = States.oneWindow(0, 0, 2, 1);
        for (int colour : new int[] {255, 0, 1, 254, 128, 127}) {
            p.plot(0, 1, 0, colour);
            p.flush();
            checks.same("of the picture", p.picture(0, 1, 0), colour);
            checks.same("of the screen", p.screen(1, 0), colour);
        }
    }

    private static void eightWindows() {
        checks.about("There are windows 0 .. 7");
        PaneScreen p = new PaneScreen();
        for (int window = 0; window < 8; window++) {
            checks.same("open", p.open(window, 0, 1, 1), window);
        }
        checks.refused("one more", STATE, () -> p.open(8, 0, 1, 1));
        checks.same("how many", p.figure(1), 8);
        checks.same("the first", p.at(0, 0), 0);
        checks.same("the last", p.at(7, 0), 7);
        checks.same("behind the last", p.at(8, 0), -1);
    }

    private static void widthAndHeight() {
        checks.about("A width 1 .. 24 and a height 1 .. 16");
        for (int[] size : new int[][] {{1, 1}, {24, 1}, {1, 16}, {24, 16}}) {
            PaneScreen p = new PaneScreen();
            p.open(0, 0, size[0], size[1]);
            checks.same("visible", p.visible(0), size[0] * size[1]);
            checks.same("of the store", p.figure(3), 400 - size[0] * size[1]);
            checks.same("painted", p.flush(), size[0] * size[1]);
        }
    }

    private static void cellsOfAPicture() {
        checks.about("Cells (u, v), u from 0 on below the width, v below the height");
        for (int[] size : new int[][] {{1, 1}, {3, 2}, {24, 16}}) {
            PaneScreen p = new PaneScreen();
            p.open(0, 0, size[0], size[1]);
            checks.same("first", p.picture(0, 0, 0), 0);
            checks.same("last", p.picture(0, size[0] - 1, size[1] - 1), 0);
            checks.refused("u = width", BOUNDS, () -> p.picture(0, size[0], 0));
            checks.refused("v = height", BOUNDS, () -> p.picture(0, 0, size[1]));
            checks.refused("u = -1", BOUNDS, () -> p.picture(0, -1, 0));
            checks.refused("v = -1", BOUNDS, () -> p.picture(0, 0, -1));
        }
    }

    private static void cellsOutsideOfTheScreen() {
        checks.about("Its cell (u, v) lies on the cell (x + u, y + v), which may be outside of the screen");
        int[][] places = {{-2, -1, 0, 0, 2, 1}, {23, 15, 23, 15, 0, 0}, {-2, 15, 0, 15, 2, 0}, {23, -1, 23, 0, 0, 1}};
        for (int[] place : places) {
            PaneScreen p = new PaneScreen();
            p.open(place[0], place[1], 3, 2);
            p.plot(0, place[4], place[5], 7);
            checks.same("one cell is on the screen", p.visible(0), 1);
            checks.same("it is painted", p.flush(), 1);
            checks.same("it has its colour", p.screen(place[2], place[3]), 7);
        }
        for (int[] place : new int[][] {{-3, 0}, {0, -2}, {24, 0}, {0, 16}, {-50, -50}, {50, 50}}) {
            PaneScreen p = new PaneScreen();
            p.open(place[0], place[1], 3, 2);
            checks.same("no cell is on the screen", p.visible(0), 0);
            checks.same("the picture is there all the same", p.plot(0, 2, 1, 7), true);
        }
    }

    private static void frame() {
        checks.about("Its frame are all these cells; a window covers a cell if it is in its frame");
        PaneScreen p = new PaneScreen();
        p.open(5, 4, 3, 2);
        for (int[] cell : new int[][] {{5, 4}, {7, 4}, {5, 5}, {7, 5}}) {
            checks.same("in the frame " + cell[0] + ", " + cell[1], p.at(cell[0], cell[1]), 0);
        }
        for (int[] cell : new int[][] {{4, 4}, {8, 4}, {5, 3}, {7, 6}, {4, 3}, {8, 3}, {4, 6}, {8, 6}}) {
            checks.same("beside the frame " + cell[0] + ", " + cell[1], p.at(cell[0], cell[1]), -1);
        }
    }

    private static void penAtFirst() {
        checks.about("It has a pen, at first (0, 0)");
        PaneScreen p = new PaneScreen();
        p.open(0, 0, 3, 3);
        checks.same("a line to where it is", p.line(0, 0, 0, 1), 1);
        checks.same("it was at 0, 0", Look.picture(p, 0, 3, 3), "1../.../...");
        p.pen(0, 2, 1);
        p.close(0);
        p.open(0, 0, 3, 3);
        checks.same("a line of a window opened again", p.line(0, 1, 0, 2), 2);
        checks.same("its pen was at 0, 0 too", Look.picture(p, 0, 3, 3), "22./.../...");
    }

    private static void firstInTheOrder() {
        checks.about("A cell is that of the first window in the order that covers it");
        PaneScreen p = new PaneScreen();
        p.open(0, 0, 2, 1);
        p.open(1, 0, 2, 1);
        p.open(2, 0, 2, 1);
        int[] due = {0, 1, 2, 2, -1};
        for (int x = 0; x < due.length; x++) {
            checks.same("order 2, 1, 0: cell " + x, p.at(x, 0), due[x]);
        }
        p.raise(0, true);
        p.raise(2, false);
        int[] dueThen = {0, 0, 1, 2, -1};
        for (int x = 0; x < dueThen.length; x++) {
            checks.same("order 0, 1, 2: cell " + x, p.at(x, 0), dueThen[x]);
        }
    }

    private static void cellsOfTheStore() {
        checks.about("The store has cells 0 .. 399");
        PaneScreen p = new PaneScreen();
        p.open(0, 0, 24, 16);
        checks.refused("401 of 400", STATE, () -> p.open(0, 0, 17, 1));
        p.open(0, 0, 15, 1);
        checks.same("399 are taken", p.figure(3), 1);
        checks.refused("two in the last one", STATE, () -> p.open(0, 0, 2, 1));
        checks.same("one in the last one", p.open(0, 0, 1, 1), 2);
        checks.same("400 are taken", p.figure(3), 0);
        p.plot(2, 0, 0, 8);
        checks.same("the last one holds a colour", p.picture(2, 0, 0), 8);
        checks.refused("one in none", STATE, () -> p.open(0, 0, 1, 1));
    }

    private static void stretchOfItsOwn() {
        checks.about("A stretch of width * height cells, which no other one has");
        PaneScreen p = States.allOpenAndStoreFull();
        for (int window = 0; window < 8; window++) {
            p.fill(window, 0, 0, 1023, window + 1);
        }
        for (int window = 0; window < 8; window++) {
            String row = Integer.toString(window + 1).repeat(10);
            String due = String.join("/", row, row, row, row, row);
            checks.same("picture " + window, Look.picture(p, window, 10, 5), due);
        }
    }

    /** Stretches of the sizes given and one of 384 behind them; the first and the third are free again. */
    private static PaneScreen withTwoGaps(int first, int between, int second) {
        PaneScreen p = new PaneScreen();
        p.open(0, 0, first, 1);
        p.open(0, 0, between, 1);
        p.open(0, 0, second, 1);
        p.open(0, 0, 24, 16);
        p.close(0);
        p.close(2);
        return p;
    }

    private static void stretchThatBeginsFirst() {
        checks.about("It gets the one that begins first of all that are free");
        PaneScreen larger = withTwoGaps(10, 1, 5);
        larger.open(0, 0, 5, 1);
        checks.same("the larger one is first", larger.figure(4), 5);
        checks.same("free then", larger.figure(3), 10);
        PaneScreen smaller = withTwoGaps(5, 1, 10);
        smaller.open(0, 0, 5, 1);
        checks.same("the smaller one is first", smaller.figure(4), 10);
        PaneScreen tooSmall = withTwoGaps(5, 1, 10);
        tooSmall.open(0, 0, 6, 1);
        checks.same("the first one is too small by one", tooSmall.figure(4), 5);
        PaneScreen alike = withTwoGaps(7, 2, 7);
        alike.open(0, 0, 7, 1);
        alike.close(1);
        checks.same("the second one stays free, and what is before it", alike.figure(4), 9);
    }

    private static void stretchesThatTouch() {
        checks.about("Free cells side by side are one stretch");
        PaneScreen p = withTwoGaps(6, 4, 6);
        checks.refused("12 free cells, not side by side", STATE, () -> p.open(0, 0, 7, 1));
        p.close(1);
        checks.same("side by side", p.figure(4), 16);
        checks.refused("one more than there are", STATE, () -> p.open(0, 0, 17, 1));
        checks.same("as many as there are", p.open(0, 0, 16, 1), 0);
    }

    private static void stretchIsKept() {
        checks.about("An open window keeps its stretch");
        PaneScreen p = new PaneScreen();
        p.open(0, 0, 10, 1);
        p.open(0, 0, 4, 1);
        p.fill(1, 1, 0, 34, 5);
        p.close(0);
        p.move(1, 3, 3);
        p.raise(1, false);
        p.scroll(1, 0, 0);
        p.flush();
        checks.same("free", p.figure(3), 396);
        checks.same("longest, behind it", p.figure(4), 386);
        checks.same("picture", Look.picture(p, 1, 4, 1), ".55.");
        p.open(0, 0, 11, 1);
        checks.same("eleven do not fit before it", p.figure(4), 375);
    }

    private static void sixRectangles() {
        checks.about("The damage has at most 6 rectangles; if there would be 7, they all become one instead");
        PaneScreen p = States.oneWindow(0, 0, 24, 16);
        checks.same("painted, so it is empty", p.figure(5), 0);
        int[] due = {1, 2, 3, 4, 5, 6, 1, 2, 3, 4, 5, 6, 1, 2};
        for (int k = 0; k < due.length; k++) {
            p.plot(0, k, k, 1);
            checks.same("after " + (k + 1), p.figure(5), due[k]);
        }
        PaneScreen same = States.oneWindow(0, 0, 1, 1);
        for (int k = 0; k < 6; k++) {
            same.plot(0, 0, 0, 1);
        }
        checks.same("six times the same", same.figure(5), 6);
        same.plot(0, 0, 0, 1);
        checks.same("seven times the same", same.figure(5), 1);
        checks.same("the same is one cell", same.flush(), 1);
    }

    private static void partOnTheScreen() {
        checks.about("To damage means: what of it is on the screen is put at the end of the list");
        int[][] places = {{-3, 5, 2}, {22, 5, 4}, {5, -1, 4}, {5, 15, 4}, {-3, -1, 1}, {22, 15, 2}, {0, 0, 8}};
        for (int[] place : places) {
            PaneScreen p = new PaneScreen();
            p.open(place[0], place[1], 4, 2);
            String where = "at " + place[0] + ", " + place[1];
            checks.same("rectangles " + where, p.figure(5), 1);
            checks.same("cells " + where, p.flush(), place[2]);
        }
    }

    private static void nothingOnTheScreen() {
        checks.about("To damage means: if there is anything of it on the screen");
        PaneScreen p = new PaneScreen();
        p.open(-4, 5, 4, 2);
        for (int[] place : new int[][] {{24, 5}, {5, -2}, {5, 16}, {-4, -2}, {24, 16}, {-50, 50}}) {
            p.move(0, place[0], place[1]);
            checks.same("rectangles at " + place[0] + ", " + place[1], p.figure(5), 0);
        }
        p.open(0, 0, 1, 1);
        for (int k = 0; k < 5; k++) {
            p.plot(1, 0, 0, 1);
        }
        p.scroll(0, 1, 1);
        checks.same("it is no seventh", p.figure(5), 6);
        p.plot(1, 0, 0, 1);
        checks.same("this one is", p.figure(5), 1);
    }

    /** Six of seven cells are the same; the other one, wherever it stands in the list, stretches the rectangle. */
    private static void leastRectangle() {
        checks.about("The least rectangle that holds them all");
        int[][] others = {{7, 8, 4}, {13, 8, 4}, {10, 5, 4}, {10, 11, 4}, {8, 6, 9}, {14, 9, 10}, {10, 8, 1}};
        for (int[] other : others) {
            for (int place = 0; place < 7; place++) {
                PaneScreen p = States.oneWindow(0, 0, 24, 16);
                for (int k = 0; k < 7; k++) {
                    p.plot(0, k == place ? other[0] : 10, k == place ? other[1] : 8, 1);
                }
                String which = other[0] + ", " + other[1] + " as number " + place;
                checks.same("one rectangle, " + which, p.figure(5), 1);
                checks.same("its cells, " + which, p.flush(), other[2]);
            }
        }
    }

    private static void seventhOfSeveralCells() {
        checks.about("The least rectangle that holds them all, of rectangles of several cells");
        PaneScreen p = States.oneWindow(0, 0, 24, 16);
        for (int k = 0; k < 6; k++) {
            p.fill(0, 4 + k, 5, 2 * 32 + 3, 1);
        }
        p.fill(0, 2, 9, 3 * 32 + 1, 1);
        checks.same("from 2, 5 to 11, 11", p.flush(), 10 * 7);
        checks.same("painted within", Look.screen(p, 1, 4, 12, 9),
                "............/...11111111./...11111111./............/............/.1........../.1........../"
                        + ".1........../............");
    }

    private static void joinedWithinTheScreen() {
        checks.about("What of it is on the screen is put into the list, and joined if there would be 7");
        PaneScreen p = States.oneWindow(22, 14, 10, 10);
        for (int k = 0; k < 6; k++) {
            p.plot(0, 0, 0, 1);
        }
        p.fill(0, 1, 0, 1023, 1);
        checks.same("one rectangle", p.figure(5), 1);
        checks.same("joined on the screen", p.flush(), 4);
        PaneScreen q = States.oneWindow(-5, -5, 8, 8);
        for (int k = 0; k < 6; k++) {
            q.plot(0, 7, 7, 1);
        }
        q.fill(0, 0, 0, 7 * 32 + 7, 1);
        checks.same("joined on the screen, left and top", q.flush(), 9);
    }

    private static void focus() {
        checks.about("One open window may have the focus");
        PaneScreen p = new PaneScreen();
        checks.same("none at first", p.figure(0), -1);
        p.open(0, 0, 1, 1);
        checks.same("one", p.figure(0), 0);
        p.open(1, 0, 1, 1);
        checks.same("another one instead", p.figure(0), 1);
        p.click(9, 9);
        checks.same("none though two are open", p.figure(0), -1);
    }

    private static void twelveEvents() {
        checks.about("Events stand in a line of at most 12; if 12 are there, an event is dropped");
        PaneScreen p = States.oneWindow(0, 0, 1, 1);
        for (int told = 1; told <= 15; told++) {
            p.key(told);
            checks.same("standing after " + told, p.figure(6), Math.min(told, 12));
            checks.same("dropped after " + told, p.figure(7), Math.max(told - 12, 0));
        }
    }

    private static void theNewEventIsDropped() {
        checks.about("To tell means to put at the end of the line, or, if 12 are there, to drop it");
        PaneScreen p = States.oneWindow(0, 0, 1, 1);
        for (int code = 1; code <= 14; code++) {
            p.key(code);
        }
        for (int code = 1; code <= 12; code++) {
            checks.nextIs(p, PaneScreen.KEY, 0, code, 0);
        }
        checks.lineIsEmpty(p);
        checks.same("dropped in all", p.figure(7), 2);
    }

    private static void roomInTheLine() {
        checks.about("If fewer than 12 are there again, an event is put at the end of the line");
        PaneScreen p = States.oneWindow(0, 0, 1, 1);
        for (int code = 1; code <= 13; code++) {
            p.key(code);
        }
        p.next();
        p.key(14);
        checks.same("room for one", p.figure(7), 1);
        p.key(15);
        checks.same("no room for two", p.figure(7), 2);
        for (int code = 2; code <= 12; code++) {
            checks.nextIs(p, PaneScreen.KEY, 0, code, 0);
        }
        checks.nextIs(p, PaneScreen.KEY, 0, 14, 0);
        checks.lineIsEmpty(p);
    }

    private static void callsOfAnObject() {
        checks.about("An object is used for at most 512 calls");
        PaneScreen p = new PaneScreen();
        p.open(0, 0, 1, 1);
        for (int call = 2; call <= 511; call++) {
            p.key(call);
        }
        checks.same("512th call after 510 keys", p.figure(7), 510 - 12);
        PaneScreen q = new PaneScreen();
        q.open(0, 0, 24, 16);
        for (int call = 2; call <= 511; call += 2) {
            q.scroll(0, 1, 1);
            q.flush();
        }
        checks.same("512th call after 255 flushes", q.figure(8), 255 * 384);
    }
}
