/** Promises 6 to 10 and 13: plot, fill, pen, line, scroll and picture; each sentence, both sides of its boundaries. */
public final class PicturesTest {
    private static final Class<?> BOUNDS = IndexOutOfBoundsException.class;
    private static final int FAR_LEFT = Integer.MIN_VALUE;
    private static final int FAR_RIGHT = Integer.MAX_VALUE;

    private static final Checks checks = new Checks();
    private static final Twins twins = new Twins(checks);

    public static void main(String[] args) {
        plotOfACell();
        plotOfTheSameColour();
        plotOfNoCell();
        plotOutsideOfTheScreen();
        fillOfCells();
        fillAcrossTheSides();
        fillAcrossTopAndBottom();
        fillOfTheGreatestExtent();
        fillOfNoCell();
        fillDamagesTheLeastRectangle();
        fillOutsideOfTheScreen();
        penAtAPlace();
        penShowsNothing();
        linesInAllDirections();
        lineHalves();
        lineOfOnePoint();
        lineAcrossThePicture();
        lineOutsideOfThePicture();
        lineMovesThePen();
        lineDamagesTheLeastRectangle();
        lineOutsideOfTheScreen();
        scrollByLittle();
        scrollByAllButOne();
        scrollByAll();
        scrollByNothing();
        scrollDamagesTheFrame();
        scrollLeavesOtherPictures();
        pictureOfCells();
        pictureIsItsOwn();
        checks.finish();
    }

    private static int extent(int width, int height) {
        return height * 32 + width;
    }

    private static void plotOfACell() {
        checks.about("Promise 6: cell (u, v) of the picture becomes a colour and is damaged");
        for (int[] cell : new int[][] {{0, 0}, {3, 0}, {0, 2}, {3, 2}, {2, 1}}) {
            PaneScreen p = States.oneWindow(5, 4, 4, 3);
            checks.same("plot", p.plot(0, cell[0], cell[1], 7), true);
            checks.same("one rectangle", p.figure(5), 1);
            checks.same("the screen waits", p.screen(5 + cell[0], 4 + cell[1]), 0);
            checks.same("one cell", p.flush(), 1);
            for (int v = 0; v < 3; v++) {
                for (int u = 0; u < 4; u++) {
                    int due = u == cell[0] && v == cell[1] ? 7 : 0;
                    checks.same("picture " + u + ", " + v, p.picture(0, u, v), due);
                    checks.same("screen at " + u + ", " + v, p.screen(5 + u, 4 + v), due);
                }
            }
        }
    }

    private static void plotOfTheSameColour() {
        checks.about("Promise 6: and is damaged, whatever its colour was");
        PaneScreen p = States.oneWindow(0, 0, 2, 2);
        checks.same("0 on 0", p.plot(0, 1, 1, 0), true);
        checks.same("one cell", p.flush(), 1);
        p.open(0, 0, 2, 2);
        p.flush();
        checks.same("hidden by another window", p.plot(0, 1, 1, 5), true);
        checks.same("one cell again", p.flush(), 1);
        checks.same("the other window's colour", p.screen(1, 1), 0);
    }

    private static void plotOfNoCell() {
        checks.about("Promise 6: false, changing nothing, if there is no such cell");
        int[][] cells = {{-1, 0}, {6, 0}, {0, -1}, {0, 5}, {-1, -1}, {6, 5}, {FAR_LEFT, 0}, {FAR_RIGHT, 0},
            {0, FAR_LEFT}, {0, FAR_RIGHT}, {FAR_RIGHT, FAR_LEFT}};
        String no = Integer.toString(Answer.number(false));
        for (int[] cell : cells) {
            twins.unchanged("plot " + cell[0] + ", " + cell[1], no, States::busy,
                    p -> Answer.of(() -> Answer.number(p.plot(0, cell[0], cell[1], 200))));
        }
        PaneScreen p = States.busy();
        checks.same("the last cell is there", p.plot(0, 5, 4, 200), true);
        checks.same("the first cell is there", p.plot(0, 0, 0, 200), true);
    }

    private static void plotOutsideOfTheScreen() {
        checks.about("Promise 6: a cell of the picture outside of the screen");
        PaneScreen p = States.oneWindow(22, -1, 4, 3);
        checks.same("beside the last column", p.plot(0, 2, 1, 4), true);
        checks.same("above the first row", p.plot(0, 0, 0, 5), true);
        checks.same("nothing is damaged", p.figure(5), 0);
        checks.same("picture", Look.picture(p, 0, 4, 3), "5.../..4./....");
        checks.same("in the last column", p.plot(0, 1, 1, 6), true);
        checks.same("one cell is damaged", p.flush(), 1);
        checks.same("its colour", p.screen(23, 0), 6);
    }

    private static void fillOfCells() {
        checks.about("Promise 7: all cells with u <= i < u + extent % 32 and v <= j < v + extent / 32; how many");
        PaneScreen p = States.oneWindow(0, 0, 6, 5);
        checks.same("3 by 2", p.fill(0, 1, 2, extent(3, 2), 7), 6);
        checks.same("picture", Look.picture(p, 0, 6, 5), "....../....../.777../.777../......");
        checks.same("1 by 1", p.fill(0, 5, 4, extent(1, 1), 8), 1);
        checks.same("1 by 3", p.fill(0, 0, 0, extent(1, 3), 1), 3);
        checks.same("over what was filled", p.fill(0, 2, 3, extent(3, 1), 0), 3);
        checks.same("picture then", Look.picture(p, 0, 6, 5), "1...../1...../1777../.7..../.....8");
    }

    private static void fillAcrossTheSides() {
        checks.about("Promise 7: all cells (i, j) of the picture with u <= i < u + extent % 32");
        String[] due = {"....", "9...", "99..", "999.", ".999", "..99", "...9", "...."};
        for (int k = 0; k < due.length; k++) {
            PaneScreen p = States.oneWindow(3, 3, 4, 1);
            int many = due[k].replace(".", "").length();
            checks.same("three from " + (k - 3), p.fill(0, k - 3, 0, extent(3, 1), 9), many);
            checks.same("picture from " + (k - 3), Look.picture(p, 0, 4, 1), due[k]);
            checks.same("damage from " + (k - 3), p.flush(), many);
        }
    }

    private static void fillAcrossTopAndBottom() {
        checks.about("Promise 7: all cells (i, j) of the picture with v <= j < v + extent / 32");
        String[] due = {"./././.", "9/././.", "9/9/./.", "9/9/9/.", "./9/9/9", "././9/9", "./././9",
            "./././."};
        for (int k = 0; k < due.length; k++) {
            PaneScreen p = States.oneWindow(3, 3, 1, 4);
            int many = due[k].replace(".", "").replace("/", "").length();
            checks.same("three from " + (k - 3), p.fill(0, 0, k - 3, extent(1, 3), 9), many);
            checks.same("picture from " + (k - 3), Look.picture(p, 0, 1, 4), due[k]);
            checks.same("damage from " + (k - 3), p.flush(), many);
        }
    }

    private static void fillOfTheGreatestExtent() {
        checks.about("Promise 7: extent 1023 is 31 by 31");
        PaneScreen p = States.oneWindow(0, 0, 24, 16);
        checks.same("all", p.fill(0, 0, 0, 1023, 1), 384);
        checks.same("31 from -7 on", p.fill(0, -7, 0, extent(31, 1), 1), 24);
        checks.same("31 from -8 on", p.fill(0, -8, 0, extent(31, 1), 1), 23);
        checks.same("the first column and row", p.fill(0, -30, -30, 1023, 1), 1);
        checks.same("the last column and row", p.fill(0, 23, 15, 1023, 1), 1);
        checks.same("the first column", p.fill(0, -30, 0, 1023, 1), 16);
        checks.same("the first row", p.fill(0, 0, -30, 1023, 1), 24);
    }

    private static void fillOfNoCell() {
        checks.about("Promise 7: the least rectangle that holds them is damaged, if there is one");
        int[][] none = {{0, 0, 0}, {0, 0, 31}, {0, 0, 32}, {0, 0, 992}, {-31, 0, 1023}, {0, -31, 1023}, {6, 0, 1023},
            {0, 5, 1023}, {-1, 0, 33}, {0, -1, 33}, {-50, -50, 1023}, {50, 50, 1023}, {50, 0, 1023}, {0, -50, 1023},
            {-50, 0, 1023}, {0, 50, 1023}};
        for (int[] cells : none) {
            twins.unchanged("fill " + cells[0] + ", " + cells[1] + ", " + cells[2], "0", States::busy,
                    p -> Answer.of(() -> p.fill(0, cells[0], cells[1], cells[2], 200)));
        }
        PaneScreen p = States.oneWindow(0, 0, 6, 5);
        checks.same("extent 33 is one cell", p.fill(0, 0, 0, 33, 200), 1);
        checks.same("it is damaged", p.flush(), 1);
    }

    private static void fillDamagesTheLeastRectangle() {
        checks.about("Promise 7: the least rectangle that holds them is damaged");
        PaneScreen p = States.oneWindow(2, 2, 6, 5);
        p.fill(0, 4, -2, extent(9, 5), 6);
        checks.same("one rectangle", p.figure(5), 1);
        checks.same("two columns, three rows", p.flush(), 6);
        checks.same("painted", Look.screen(p, 5, 1, 4, 6), "..../.66./.66./.66./..../....");
    }

    private static void fillOutsideOfTheScreen() {
        checks.about("Promise 7: how many they are, also outside of the screen");
        PaneScreen p = States.oneWindow(-3, -3, 6, 6);
        checks.same("all outside", p.fill(0, 0, 0, extent(3, 6), 5), 18);
        checks.same("nothing is damaged", p.figure(5), 0);
        checks.same("picture", p.picture(0, 2, 5), 5);
        checks.same("partly outside", p.fill(0, 2, 2, extent(2, 2), 6), 4);
        checks.same("one cell is damaged", p.flush(), 1);
        checks.same("its colour", p.screen(0, 0), 6);
    }

    private static void penAtAPlace() {
        checks.about("Promise 8: the pen is at (u, v) then");
        PaneScreen p = States.oneWindow(0, 0, 5, 3);
        p.pen(0, 3, 2);
        checks.same("a line from there", p.line(0, 1, 2, 1), 3);
        checks.same("picture", Look.picture(p, 0, 5, 3), "...../...../.111.");
        p.pen(0, 50, 0);
        checks.same("from the farthest right", p.line(0, 4, 0, 2), 1);
        p.pen(0, -50, 1);
        checks.same("from the farthest left", p.line(0, 0, 1, 3), 1);
        p.pen(0, 2, 50);
        checks.same("from the farthest below", p.line(0, 2, 2, 4), 1);
        p.pen(0, 2, -50);
        checks.same("from the farthest above", p.line(0, 2, 0, 5), 1);
        checks.same("picture then", Look.picture(p, 0, 5, 3), "..5.2/3..../.141.");
    }

    private static void penShowsNothing() {
        checks.about("Promise 8: the pen is at (u, v) then, and nothing else changes");
        PaneScreen p = States.twoWindows();
        p.pen(0, 1, 1);
        checks.same("nothing is damaged", p.figure(5), 0);
        checks.same("the focus stays", p.figure(0), 1);
        checks.same("another window's pen stays", p.line(1, 0, 0, 3), 1);
        checks.same("another window's picture", Look.picture(p, 1, 2, 2), "3./..");
        checks.same("its own pen", p.line(0, 1, 1, 4), 1);
        checks.same("its own picture", Look.picture(p, 0, 2, 2), "../.4");
    }

    private static void line(String name, int[] ends, String due) {
        PaneScreen p = States.oneWindow(2, 1, 5, 4);
        p.pen(0, ends[0], ends[1]);
        int many = due.replace(".", "").replace("/", "").length();
        checks.same(name + ": how many", p.line(0, ends[2], ends[3], 9), many);
        checks.same(name + ": picture", Look.picture(p, 0, 5, 4), due);
        checks.same(name + ": rectangles", p.figure(5), many == 0 ? 0 : 1);
    }

    private static void linesInAllDirections() {
        checks.about("Promise 9: the line has the points k = 0 .. n");
        line("right", new int[] {1, 1, 3, 1}, "...../.999./...../.....");
        line("left", new int[] {3, 1, 1, 1}, "...../.999./...../.....");
        line("down", new int[] {2, 0, 2, 3}, "..9../..9../..9../..9..");
        line("up", new int[] {2, 3, 2, 0}, "..9../..9../..9../..9..");
        line("right and down", new int[] {0, 0, 3, 3}, "9..../.9.../..9../...9.");
        line("left and up", new int[] {3, 3, 0, 0}, "9..../.9.../..9../...9.");
        line("right and up", new int[] {0, 3, 3, 0}, "...9./..9../.9.../9....");
        line("left and down", new int[] {3, 0, 0, 3}, "...9./..9../.9.../9....");
        line("gentle", new int[] {0, 0, 4, 3}, "9..../.9.../..99./....9");
        line("steep", new int[] {1, 0, 2, 3}, ".9.../.9.../..9../..9..");
        line("to the next", new int[] {1, 1, 2, 1}, "...../.99../...../.....");
    }

    private static void lineHalves() {
        checks.about("Promise 9: div being the greatest whole number not above the quotient");
        line("halves, right and down", new int[] {0, 0, 4, 2}, "9..../.99../...99/.....");
        line("halves, left and up", new int[] {4, 2, 0, 0}, "9..../.99../...99/.....");
        line("halves, right and up", new int[] {0, 2, 4, 0}, "....9/..99./99.../.....");
        line("halves, left and down", new int[] {4, 0, 0, 2}, "....9/..99./99.../.....");
        line("halves, down and left", new int[] {2, 0, 1, 2}, "..9../..9../.9.../.....");
        line("halves, down and right", new int[] {1, 0, 2, 2}, ".9.../..9../..9../.....");
        line("halves, up and left", new int[] {2, 2, 1, 0}, ".9.../..9../..9../.....");
        line("less than a half, left and up", new int[] {4, 1, 0, 0}, "99.../..999/...../.....");
    }

    private static void lineOfOnePoint() {
        checks.about("Promise 9: if n is 0, the pen's own");
        line("first cell", new int[] {0, 0, 0, 0}, "9..../...../...../.....");
        line("last cell", new int[] {4, 3, 4, 3}, "...../...../...../....9");
        line("beside the last column", new int[] {5, 3, 5, 3}, "...../...../...../.....");
        line("below the last row", new int[] {4, 4, 4, 4}, "...../...../...../.....");
        line("beside the first column", new int[] {-1, 0, -1, 0}, "...../...../...../.....");
        line("above the first row", new int[] {0, -1, 0, -1}, "...../...../...../.....");
        line("far outside", new int[] {-50, 50, -50, 50}, "...../...../...../.....");
    }

    private static void lineAcrossThePicture() {
        checks.about("Promise 9: the cells of the picture that are among them become a colour");
        line("from side to side", new int[] {-50, 1, 50, 1}, "...../99999/...../.....");
        line("from below to above", new int[] {4, 50, 4, -50}, "....9/....9/....9/....9");
        line("the longest slope", new int[] {-50, -50, 50, 50}, "9..../.9.../..9../...9.");
        line("the longest slope back", new int[] {50, -46, -46, 50}, "....9/...9./..9../.9...");
        line("comes in", new int[] {-3, 2, 1, 2}, "...../...../99.../.....");
        line("goes out", new int[] {3, 0, 7, 0}, "...99/...../...../.....");
        line("over one corner", new int[] {-1, 1, 1, -1}, "9..../...../...../.....");
    }

    private static void lineOutsideOfThePicture() {
        checks.about("Promise 9: the least rectangle that holds these is damaged, if there is one");
        line("above", new int[] {-50, -1, 50, -1}, "...../...../...../.....");
        line("below", new int[] {-50, 4, 50, 4}, "...../...../...../.....");
        line("before", new int[] {-1, -50, -1, 50}, "...../...../...../.....");
        line("behind", new int[] {5, -50, 5, 50}, "...../...../...../.....");
        line("past a corner", new int[] {-2, 1, 1, -2}, "...../...../...../.....");
        twins.unchanged("to where the pen is", "0", PicturesTest::busyWithPenOutside,
                p -> Answer.of(() -> p.line(0, -1, -1, 200)));
    }

    private static PaneScreen busyWithPenOutside() {
        PaneScreen p = States.busy();
        p.pen(0, -1, -1);
        return p;
    }

    private static void lineMovesThePen() {
        checks.about("Promise 9: draws a line from the pen to (u, v), where the pen is then");
        PaneScreen p = States.oneWindow(0, 0, 5, 4);
        checks.same("from 0, 0", p.line(0, 2, 0, 1), 3);
        checks.same("from its end", p.line(0, 2, 2, 2), 3);
        checks.same("out of the picture", p.line(0, 2, 9, 3), 2);
        checks.same("outside of the picture", p.line(0, 8, 9, 4), 0);
        checks.same("and from there", p.line(0, 8, 3, 5), 0);
        checks.same("into the picture", p.line(0, 0, 3, 6), 5);
        checks.same("picture", Look.picture(p, 0, 5, 4), "112../..2../..3../66666");
    }

    private static void lineDamagesTheLeastRectangle() {
        checks.about("Promise 9: the least rectangle that holds these is damaged");
        int[][] lines = {{0, 0, 0, 0, 1}, {1, 1, 3, 1, 3}, {0, 0, 3, 3, 16}, {3, 0, 1, 3, 12}, {-50, -50, 50, 50, 16},
            {-1, 1, 1, -1, 1}, {4, 3, 9, 3, 1}, {0, 0, 4, 1, 10}};
        for (int[] ends : lines) {
            PaneScreen p = States.oneWindow(2, 1, 5, 4);
            p.pen(0, ends[0], ends[1]);
            p.line(0, ends[2], ends[3], 9);
            checks.same("one rectangle", p.figure(5), 1);
            checks.same("its cells, to " + ends[2] + ", " + ends[3], p.flush(), ends[4]);
        }
        PaneScreen p = States.oneWindow(2, 1, 5, 4);
        p.pen(0, 1, 1);
        p.line(0, 3, 2, 9);
        p.flush();
        checks.same("painted", Look.screen(p, 2, 1, 5, 4), Look.picture(p, 0, 5, 4));
    }

    private static void lineOutsideOfTheScreen() {
        checks.about("Promise 9: how many they are, also outside of the screen");
        PaneScreen p = States.oneWindow(-3, -1, 5, 4);
        checks.same("above the screen", p.line(0, 4, 0, 9), 5);
        checks.same("nothing is damaged", p.figure(5), 0);
        p.pen(0, 0, 1);
        checks.same("partly on the screen", p.line(0, 4, 1, 9), 5);
        checks.same("two cells are damaged", p.flush(), 2);
        checks.same("their colours", Look.screen(p, 0, 0, 3, 2), "99./...");
    }

    private static PaneScreen numbered() {
        PaneScreen p = new PaneScreen();
        p.open(5, 5, 3, 3);
        for (int cell = 0; cell < 9; cell++) {
            p.plot(0, cell % 3, cell / 3, cell + 1);
        }
        p.flush();
        return p;
    }

    private static void scrolled(int u, int v, String due) {
        PaneScreen p = numbered();
        p.scroll(0, u, v);
        checks.same("by " + u + ", " + v, Look.picture(p, 0, 3, 3), due);
        checks.same("damage by " + u + ", " + v, p.flush(), 9);
        checks.same("screen by " + u + ", " + v, Look.screen(p, 5, 5, 3, 3), due);
    }

    private static void scrollByLittle() {
        checks.about("Promise 10: all cells at once: (i, j) gets the colour that (i + u, j + v) had");
        scrolled(1, 0, "23./56./89.");
        scrolled(-1, 0, ".12/.45/.78");
        scrolled(0, 1, "456/789/...");
        scrolled(0, -1, ".../123/456");
        scrolled(1, 1, "56./89./...");
        scrolled(-1, -1, ".../.12/.45");
        scrolled(1, -1, ".../23./56.");
        scrolled(-1, 1, ".45/.78/...");
    }

    private static void scrollByAllButOne() {
        checks.about("Promise 10: 0 if there is no such cell, one column or row being left");
        scrolled(2, 0, "3../6../9..");
        scrolled(-2, 0, "..1/..4/..7");
        scrolled(0, 2, "789/.../...");
        scrolled(0, -2, ".../.../123");
        scrolled(2, 2, "9../.../...");
        scrolled(-2, -2, ".../.../..1");
    }

    private static void scrollByAll() {
        checks.about("Promise 10: 0 if there is no such cell, none being left");
        int[][] ways = {{3, 0}, {-3, 0}, {0, 3}, {0, -3}, {50, 0}, {-50, 0}, {0, 50}, {0, -50}, {50, 50}, {-50, -50},
            {3, -1}, {-1, 3}};
        for (int[] way : ways) {
            scrolled(way[0], way[1], ".../.../...");
        }
    }

    private static void scrollByNothing() {
        checks.about("Promise 10: the frame is damaged, also if no colour changes");
        scrolled(0, 0, "123/456/789");
    }

    private static void scrollDamagesTheFrame() {
        checks.about("Promise 10: the frame is damaged");
        int[][] places = {{0, 0, 9}, {-2, -2, 1}, {22, 14, 4}, {23, 15, 1}};
        for (int[] place : places) {
            PaneScreen p = States.oneWindow(place[0], place[1], 3, 3);
            p.scroll(0, 1, 1);
            checks.same("one rectangle", p.figure(5), 1);
            checks.same("its cells on the screen", p.flush(), place[2]);
        }
        PaneScreen p = States.oneWindow(-3, 0, 3, 3);
        p.plot(0, 1, 1, 5);
        p.scroll(0, 1, 1);
        checks.same("outside of the screen", p.figure(5), 0);
        checks.same("scrolled all the same", p.picture(0, 0, 0), 5);
    }

    private static void scrollLeavesOtherPictures() {
        checks.about("Promise 10: all cells of the picture, and no other's");
        PaneScreen p = new PaneScreen();
        for (int window = 0; window < 3; window++) {
            p.open(0, 0, 3, 2);
            p.fill(window, 0, 0, 1023, window + 1);
        }
        p.scroll(1, 1, 1);
        checks.same("before it in the store", Look.picture(p, 0, 3, 2), "111/111");
        checks.same("itself", Look.picture(p, 1, 3, 2), "22./...");
        checks.same("behind it in the store", Look.picture(p, 2, 3, 2), "333/333");
        p.scroll(1, -2, -1);
        checks.same("itself again", Look.picture(p, 1, 3, 2), ".../..2");
        checks.same("before it again", Look.picture(p, 0, 3, 2), "111/111");
        checks.same("behind it again", Look.picture(p, 2, 3, 2), "333/333");
    }

    private static void pictureOfCells() {
        checks.about("Promise 13: colour of cell (u, v); index out of bounds: there is no such cell");
        PaneScreen p = new PaneScreen();
        p.open(-50, 50, 4, 2);
        p.plot(0, 0, 0, 255);
        p.plot(0, 3, 1, 254);
        checks.same("first", p.picture(0, 0, 0), 255);
        checks.same("last", p.picture(0, 3, 1), 254);
        checks.same("width and height are not mixed up", p.picture(0, 3, 0), 0);
        checks.refused("height and width are not mixed up", BOUNDS, () -> p.picture(0, 1, 3));
        for (int[] cell : new int[][] {{4, 0}, {0, 2}, {-1, 1}, {1, -1}, {4, 2}, {FAR_LEFT, 0}, {0, FAR_RIGHT}}) {
            checks.refused("none at " + cell[0] + ", " + cell[1], BOUNDS, () -> p.picture(0, cell[0], cell[1]));
        }
    }

    private static void pictureIsItsOwn() {
        checks.about("Promise 13: the picture's colour, not the screen's");
        PaneScreen p = States.oneWindow(0, 0, 2, 2);
        p.plot(0, 1, 0, 3);
        checks.same("before a flush", p.picture(0, 1, 0), 3);
        p.open(0, 0, 2, 2);
        p.fill(1, 0, 0, 1023, 4);
        p.flush();
        checks.same("when it is covered", Look.picture(p, 0, 2, 2), ".3/..");
        checks.same("of the one that covers it", Look.picture(p, 1, 2, 2), "44/44");
    }
}
