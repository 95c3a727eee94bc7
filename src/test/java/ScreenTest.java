/** Promises 11, 12, 14 and 15: flush, screen, at and visible; each sentence, both sides of its boundaries. */
public final class ScreenTest {
    private static final Class<?> BOUNDS = IndexOutOfBoundsException.class;

    private static final Checks checks = new Checks();
    private static final Twins twins = new Twins(checks);

    public static void main(String[] args) {
        flushPaintsTheDamageAlone();
        flushPaintsTheFirstWindow();
        flushPaints0();
        flushPaintsPartOfAPicture();
        flushEmptiesTheDamage();
        flushCountsEachCellOnce();
        flushOfNothing();
        flushOfTheWholeScreen();
        screenOfCells();
        screenWaitsForAFlush();
        atOfCells();
        atOfNone();
        visibleCells();
        visibleNone();
        visibleOfAll();
        asksChangeNothing();
        checks.finish();
    }

    private static void flushPaintsTheDamageAlone() {
        checks.about("Promise 11: every cell of the screen that is in a rectangle of the damage");
        PaneScreen p = new PaneScreen();
        p.open(2, 1, 3, 2);
        p.fill(0, 0, 0, 1023, 5);
        p.flush();
        p.open(1, 0, 5, 4);
        p.fill(1, 0, 0, 1023, 6);
        p.move(1, 50, 50);
        p.flush();
        checks.same("the old frame is painted", Look.screen(p, 0, 0, 7, 5), "......./..555../..555../......./.......");
        p.fill(0, 0, 0, 1023, 7);
        p.flush();
        p.fill(0, 1, 0, 33, 8);
        checks.same("one cell", p.flush(), 1);
        checks.same("the others keep their colours", Look.screen(p, 1, 0, 5, 4), "...../.787./.777./.....");
    }

    private static PaneScreen twoThatOverlap() {
        PaneScreen p = new PaneScreen();
        p.open(0, 0, 3, 1);
        p.open(1, 0, 3, 1);
        p.fill(0, 0, 0, 1023, 1);
        p.fill(1, 0, 0, 1023, 2);
        p.flush();
        return p;
    }

    private static void flushPaintsTheFirstWindow() {
        checks.about("Promise 11: the colour of the cell of the picture of the window whose the cell is");
        PaneScreen p = twoThatOverlap();
        checks.same("order 1, 0", Look.screen(p, 0, 0, 5, 1), "1222.");
        p.raise(0, true);
        checks.same("three cells", p.flush(), 3);
        checks.same("order 0, 1", Look.screen(p, 0, 0, 5, 1), "1112.");
        p.fill(1, 0, 0, 1023, 3);
        checks.same("hidden cells are painted too", p.flush(), 3);
        checks.same("by the first window", Look.screen(p, 0, 0, 5, 1), "1113.");
    }

    private static void flushPaints0() {
        checks.about("Promise 11: 0 if none covers it");
        PaneScreen p = twoThatOverlap();
        p.close(1);
        checks.same("cells of the closed one", p.flush(), 3);
        checks.same("another one covers two of them", Look.screen(p, 0, 0, 5, 1), "111..");
        p.close(0);
        p.flush();
        checks.same("none covers them", Look.screen(p, 0, 0, 5, 1), ".....");
    }

    private static void flushPaintsPartOfAPicture() {
        checks.about("Promise 11: the cell of the picture that lies there");
        int[] places = {-4, -3, -1, 0, 1};
        String[] due = {"......", "4.....", "234...", "1234..", ".1234."};
        for (int k = 0; k < due.length; k++) {
            checks.same("left, at " + places[k], Look.screen(painted1234(places[k]), 0, 0, 6, 1), due[k]);
        }
        int[] rightPlaces = {24, 23, 21, 20, 19};
        String[] dueRight = {"......", ".....1", "...123", "..1234", ".1234."};
        for (int k = 0; k < dueRight.length; k++) {
            String seen = Look.screen(painted1234(rightPlaces[k]), 18, 0, 6, 1);
            checks.same("right, at " + rightPlaces[k], seen, dueRight[k]);
        }
    }

    private static PaneScreen painted1234(int x) {
        PaneScreen p = new PaneScreen();
        p.open(x, 0, 4, 1);
        for (int u = 0; u < 4; u++) {
            p.plot(0, u, 0, u + 1);
        }
        p.flush();
        return p;
    }

    private static void flushEmptiesTheDamage() {
        checks.about("Promise 11: the damage is empty then");
        PaneScreen p = States.busy();
        checks.same("six rectangles", p.figure(5), 6);
        checks.same("six cells", p.flush(), 6);
        checks.same("none", p.figure(5), 0);
        checks.same("a second flush", p.flush(), 0);
        p.plot(0, 0, 0, 9);
        checks.same("one rectangle again", p.figure(5), 1);
        checks.same("one cell", p.flush(), 1);
    }

    private static void flushCountsEachCellOnce() {
        checks.about("Promise 11: how many cells these were, each counted once");
        PaneScreen p = States.oneWindow(0, 0, 24, 16);
        p.fill(0, 2, 2, 3 * 32 + 3, 1);
        p.fill(0, 4, 4, 3 * 32 + 3, 1);
        checks.same("two with one common cell", p.flush(), 17);
        p.fill(0, 2, 2, 3 * 32 + 3, 1);
        p.fill(0, 5, 2, 3 * 32 + 3, 1);
        checks.same("two side by side", p.flush(), 18);
        p.fill(0, 2, 2, 3 * 32 + 3, 1);
        p.fill(0, 3, 3, 33, 1);
        checks.same("one within the other", p.flush(), 9);
        for (int k = 0; k < 6; k++) {
            p.fill(0, 2, 2, 3 * 32 + 3, 1);
        }
        checks.same("six times the same", p.flush(), 9);
        checks.same("in all", p.figure(8), 384 + 17 + 18 + 9 + 9);
    }

    private static void flushOfNothing() {
        checks.about("Promise 11: how many cells these were, if nothing is damaged");
        twins.unchanged("new", "0", PaneScreen::new, p -> Answer.of(p::flush));
        twins.unchanged("painted", "0", ScreenTest::busyAndPainted, p -> Answer.of(p::flush));
    }

    private static PaneScreen busyAndPainted() {
        PaneScreen p = States.busy();
        p.flush();
        return p;
    }

    private static void flushOfTheWholeScreen() {
        checks.about("Promise 11: every cell of the screen, the corners too");
        PaneScreen p = new PaneScreen();
        p.open(0, 0, 24, 16);
        p.fill(0, 0, 0, 1023, 7);
        checks.same("all", p.flush(), 384);
        String row = "7".repeat(24);
        checks.same("painted", Look.screen(p, 0, 0, 24, 16), (row + "/").repeat(15) + row);
    }

    private static void screenOfCells() {
        checks.about("Promise 12: the colour of a cell; index out of bounds: there is no such cell");
        PaneScreen p = States.oneWindow(0, 0, 24, 16);
        int[][] corners = {{0, 0}, {23, 0}, {0, 15}, {23, 15}};
        for (int k = 0; k < corners.length; k++) {
            p.plot(0, corners[k][0], corners[k][1], 252 + k);
        }
        p.flush();
        for (int k = 0; k < corners.length; k++) {
            checks.same("corner " + k, p.screen(corners[k][0], corners[k][1]), 252 + k);
        }
        for (int[] cell : new int[][] {{-1, 0}, {24, 0}, {0, -1}, {0, 16}, {16, 23}, {24, 16}}) {
            checks.refused("none at " + cell[0] + ", " + cell[1], BOUNDS, () -> p.screen(cell[0], cell[1]));
        }
    }

    private static void screenWaitsForAFlush() {
        checks.about("Promise 12: the colour of a cell of the screen, which a flush alone changes");
        PaneScreen p = States.oneWindow(0, 0, 2, 1);
        p.plot(0, 0, 0, 5);
        checks.same("after plot", Look.screen(p, 0, 0, 4, 1), "....");
        p.flush();
        checks.same("after flush", Look.screen(p, 0, 0, 4, 1), "5...");
        p.move(0, 2, 0);
        checks.same("after move", Look.screen(p, 0, 0, 4, 1), "5...");
        p.flush();
        checks.same("after flush again", Look.screen(p, 0, 0, 4, 1), "..5.");
        p.scroll(0, -1, 0);
        p.close(0);
        checks.same("after close", Look.screen(p, 0, 0, 4, 1), "..5.");
    }

    private static void atOfCells() {
        checks.about("Promise 14: the window whose a cell of the screen is; index out of bounds: no such cell");
        PaneScreen p = new PaneScreen();
        p.open(-1, -1, 2, 2);
        p.open(23, -1, 2, 2);
        p.open(-1, 15, 2, 2);
        p.open(23, 15, 2, 2);
        checks.same("left above", p.at(0, 0), 0);
        checks.same("right above", p.at(23, 0), 1);
        checks.same("left below", p.at(0, 15), 2);
        checks.same("right below", p.at(23, 15), 3);
        for (int[] cell : new int[][] {{-1, -1}, {24, 0}, {0, 16}, {24, 16}, {-1, 0}, {0, -1}}) {
            checks.refused("covered, but no cell of the screen", BOUNDS, () -> p.at(cell[0], cell[1]));
        }
    }

    private static void atOfNone() {
        checks.about("Promise 14: -1 for none");
        PaneScreen p = new PaneScreen();
        checks.same("no window is open", p.at(0, 0), -1);
        p.open(2, 2, 1, 1);
        checks.same("its cell", p.at(2, 2), 0);
        for (int[] cell : new int[][] {{1, 2}, {3, 2}, {2, 1}, {2, 3}}) {
            checks.same("beside its cell", p.at(cell[0], cell[1]), -1);
        }
        p.close(0);
        checks.same("closed, before a flush", p.at(2, 2), -1);
    }

    private static void visibleCells() {
        checks.about("Promise 15: how many cells of the screen are a window's");
        PaneScreen p = new PaneScreen();
        p.open(0, 0, 4, 4);
        checks.same("whole", p.visible(0), 16);
        p.open(3, 3, 4, 4);
        checks.same("all but one", p.visible(0), 15);
        checks.same("in front", p.visible(1), 16);
        p.move(1, 4, 4);
        checks.same("beside it", p.visible(0), 16);
        p.move(1, 0, 1);
        checks.same("one row", p.visible(0), 4);
        p.move(1, 1, 1);
        checks.same("without the common cells", p.visible(0), 7);
        p.raise(0, true);
        checks.same("in front now", p.visible(0), 16);
        checks.same("behind now", p.visible(1), 7);
        p.open(0, 0, 2, 2);
        checks.same("with a third one", p.visible(0), 12);
    }

    private static void visibleNone() {
        checks.about("Promise 15: how many, if there is none");
        PaneScreen p = new PaneScreen();
        p.open(0, 0, 4, 4);
        p.open(0, 0, 4, 4);
        checks.same("covered", p.visible(0), 0);
        p.close(1);
        checks.same("not covered any more", p.visible(0), 16);
        int[][] places = {{-4, 0, 0}, {-3, 0, 4}, {24, 0, 0}, {23, 0, 4}, {0, -4, 0}, {0, -3, 4}, {0, 16, 0},
            {0, 15, 4}};
        for (int[] place : places) {
            p.move(0, place[0], place[1]);
            checks.same("at " + place[0] + ", " + place[1], p.visible(0), place[2]);
        }
    }

    private static void visibleOfAll() {
        checks.about("Promise 15: how many, if all are");
        PaneScreen p = new PaneScreen();
        p.open(0, 0, 24, 16);
        checks.same("the whole screen", p.visible(0), 384);
        p.move(0, 1, 0);
        checks.same("one column is outside", p.visible(0), 368);
        p.move(0, 0, -1);
        checks.same("one row is outside", p.visible(0), 360);
    }

    private static void asksChangeNothing() {
        checks.about("Promises 12 to 15, 19 and 20: asks that change nothing");
        twins.unchanged("screen", "10", States::busy, p -> Answer.of(() -> p.screen(3, 3)));
        twins.unchanged("picture", "100", States::busy, p -> Answer.of(() -> p.picture(0, 1, 1)));
        twins.unchanged("at", "3", States::busy, p -> Answer.of(() -> p.at(21, 13)));
        twins.unchanged("visible", "30", States::busy, p -> Answer.of(() -> p.visible(0)));
        twins.unchanged("event", "4", States::busy, p -> Answer.of(() -> p.event(0)));
        twins.unchanged("figure", "11", States::busy, p -> Answer.of(() -> p.figure(6)));
    }
}
