import java.util.NoSuchElementException;

/** Promises 1 to 5: a new object, open, close, move and raise; each sentence, and both sides of its boundaries. */
public final class WindowsTest {
    private static final Class<?> STATE = IllegalStateException.class;
    private static final Class<?> ELEMENT = NoSuchElementException.class;

    private static final Checks checks = new Checks();
    private static final Twins twins = new Twins(checks);

    public static void main(String[] args) {
        newObject();
        openTakesTheLeast();
        openInFrontOfAll();
        openWithColours0();
        openDamagesTheFrame();
        openGivesTheFocus();
        openAtTheFarthestPlaces();
        closeDamagesTheFrame();
        closeTakesEventsOut();
        closeTakesEachKindOut();
        closeMakesRoomInTheLine();
        closeOfTheFocus();
        closeOfTheLast();
        closeOfAnother();
        closeWithoutFocus();
        moveDamagesBothFrames();
        moveToTheSamePlace();
        moveDamagesTheOldFrameFirst();
        moveOutAndIn();
        moveKeepsTheRest();
        raiseToTheFront();
        raiseBehind();
        raiseThatChangesNothing();
        raiseOutsideOfTheScreen();
        raiseKeepsTheRest();
        checks.finish();
    }

    private static void figures(PaneScreen p, int... due) {
        for (int k = 0; k < due.length; k++) {
            checks.same("figure(" + k + ")", p.figure(k), due[k]);
        }
    }

    private static void newObject() {
        checks.about("Promise 1: no window is open, nothing is damaged, no focus");
        PaneScreen p = new PaneScreen();
        figures(p, -1, 0, -1, 400, 400, 0, 0, 0, 0);
        checks.same("flush", p.flush(), 0);
        checks.same("key", p.key(1), false);
        checks.same("click", p.click(0, 0), -1);
        checks.lineIsEmpty(p);
        checks.refused("next", ELEMENT, p::next);
        checks.refused("event", STATE, () -> p.event(0));
        for (int window = 0; window < 8; window++) {
            int w = window;
            checks.refused("visible " + w, ELEMENT, () -> p.visible(w));
        }
        PaneScreen other = States.busy();
        figures(new PaneScreen(), -1, 0, -1, 400, 400, 0, 0, 0, 0);
        checks.same("a new one leaves another as it is", other.figure(1), 4);
    }

    private static void openTakesTheLeast() {
        checks.about("Promise 2: opens the least window that is not open; its number");
        PaneScreen p = States.allOpen();
        p.close(5);
        p.close(0);
        p.close(7);
        checks.same("0, 5 and 7 are not open", p.open(0, 0, 1, 1), 0);
        checks.same("5 and 7 are not open", p.open(0, 0, 1, 1), 5);
        checks.same("7 is not open", p.open(0, 0, 1, 1), 7);
        checks.refused("all are open", STATE, () -> p.open(0, 0, 1, 1));
    }

    private static void openInFrontOfAll() {
        checks.about("Promise 2: in front of all");
        PaneScreen p = new PaneScreen();
        for (int window = 0; window < 8; window++) {
            p.open(3, 3, 2, 2);
            checks.same("first in the order", p.figure(2), window);
            checks.same("has the cell", p.at(4, 4), window);
        }
        p.close(2);
        p.open(3, 3, 2, 2);
        checks.same("a lower number in front of higher ones", p.at(4, 4), 2);
        p.close(2);
        checks.same("the one behind it", p.at(4, 4), 7);
    }

    private static void openWithColours0() {
        checks.about("Promise 2: with a picture of colours 0");
        PaneScreen p = new PaneScreen();
        p.open(0, 0, 6, 4);
        p.fill(0, 0, 0, 1023, 9);
        p.close(0);
        p.open(0, 0, 4, 6);
        checks.same("where another picture was", Look.picture(p, 0, 4, 6), "..../..../..../..../..../....");
    }

    private static void openDamagesTheFrame() {
        checks.about("Promise 2: its frame is damaged");
        int[][] places = {{2, 3, 4, 5, 20}, {0, 0, 24, 16, 384}, {-1, -1, 2, 2, 1}, {23, 15, 24, 16, 1}};
        for (int[] place : places) {
            PaneScreen p = new PaneScreen();
            p.open(place[0], place[1], place[2], place[3]);
            checks.same("one rectangle", p.figure(5), 1);
            checks.same("its cells", p.flush(), place[4]);
        }
        for (int[] place : new int[][] {{-2, 0}, {24, 0}, {0, -2}, {0, 16}}) {
            PaneScreen p = new PaneScreen();
            p.open(place[0], place[1], 2, 2);
            checks.same("none beside the screen", p.figure(5), 0);
        }
    }

    private static void openGivesTheFocus() {
        checks.about("Promise 2: it gets the focus (without events)");
        PaneScreen p = States.twoWindows();
        p.open(9, 9, 1, 1);
        checks.same("from another one", p.figure(0), 2);
        checks.lineIsEmpty(p);
        p.click(20, 14);
        p.next();
        p.open(9, 9, 1, 1);
        checks.same("from none", p.figure(0), 3);
        checks.lineIsEmpty(p);
        p.open(-50, -50, 1, 1);
        checks.same("outside of the screen", p.figure(0), 4);
        PaneScreen full = States.busy();
        full.key(1);
        full.open(0, 0, 1, 1);
        checks.same("none is dropped either", full.figure(7), 0);
    }

    private static void openAtTheFarthestPlaces() {
        checks.about("Promise 2: x and y are -50 .. 50");
        PaneScreen p = new PaneScreen();
        int[][] places = {{-50, -50}, {50, 50}, {-50, 50}, {50, -50}};
        for (int window = 0; window < places.length; window++) {
            p.open(places[window][0], places[window][1], 8, 8);
            checks.same("nothing is seen", p.visible(window), 0);
        }
        checks.same("all are open", p.figure(1), 4);
        checks.same("nothing is damaged", p.figure(5), 0);
    }

    private static void closeDamagesTheFrame() {
        checks.about("Promise 3: its frame is damaged");
        PaneScreen p = States.oneWindow(1, 1, 3, 2);
        p.fill(0, 0, 0, 1023, 4);
        p.flush();
        p.close(0);
        checks.same("one rectangle", p.figure(5), 1);
        checks.same("the screen waits", p.screen(1, 1), 4);
        checks.same("its cells", p.flush(), 6);
        checks.same("nothing is there", Look.screen(p, 0, 0, 5, 4), "...../...../...../.....");
        PaneScreen partly = States.oneWindow(-2, -1, 3, 2);
        partly.close(0);
        checks.same("one cell on the screen", partly.flush(), 1);
        PaneScreen outside = States.oneWindow(-3, 0, 3, 2);
        outside.close(0);
        checks.same("none on the screen", outside.figure(5), 0);
    }

    private static void closeTakesEventsOut() {
        checks.about("Promise 3: its events are taken out of the line");
        PaneScreen p = States.twoWindows();
        p.key(10);
        p.click(1, 1);
        p.key(20);
        p.click(5, 0);
        p.key(30);
        checks.same("KEY; LOST, GOT, CLICK; KEY; LOST, GOT, CLICK; KEY", p.figure(6), 9);
        p.close(1);
        checks.same("four are the other one's", p.figure(6), 4);
        checks.nextIs(p, PaneScreen.GOT, 0, 0, 0);
        checks.nextIs(p, PaneScreen.CLICK, 0, 1, 1);
        checks.nextIs(p, PaneScreen.KEY, 0, 20, 0);
        checks.nextIs(p, PaneScreen.LOST, 0, 0, 0);
        checks.lineIsEmpty(p);
    }

    private static void closeTakesEachKindOut() {
        checks.about("Promise 3: its events are taken out of the line, wherever in it and of whatever kind they are");
        PaneScreen lost = States.twoWindows();
        lost.click(0, 0);
        lost.close(1);
        checks.same("LOST, the first of three", lost.figure(6), 2);
        checks.nextIs(lost, PaneScreen.GOT, 0, 0, 0);
        PaneScreen got = States.twoWindows();
        got.click(0, 0);
        got.close(0);
        checks.same("GOT and CLICK, the last of three", got.figure(6), 1);
        checks.nextIs(got, PaneScreen.LOST, 1, 0, 0);
        PaneScreen key = States.twoWindows();
        key.key(5);
        key.close(0);
        checks.same("it has none", key.figure(6), 1);
        key.close(1);
        checks.same("KEY, all that there are", key.figure(6), 0);
        key.open(0, 0, 1, 1);
        key.open(0, 0, 1, 1);
        checks.same("they do not come back", key.figure(6), 0);
    }

    private static void closeMakesRoomInTheLine() {
        checks.about("Promise 3: events taken out of the line are not dropped and leave room");
        PaneScreen p = States.twoWindows();
        p.key(1);
        p.click(0, 0);
        for (int code = 2; code < 10; code++) {
            p.key(code);
        }
        checks.same("the line is full", p.figure(6), 12);
        p.close(1);
        checks.same("two were window 1's", p.figure(6), 10);
        p.key(10);
        p.key(11);
        checks.same("none was dropped", p.figure(7), 0);
        p.key(12);
        checks.same("the next one is", p.figure(7), 1);
    }

    private static void closeOfTheFocus() {
        checks.about("Promise 3: if it had the focus, the first one in the order that is left has it then");
        PaneScreen p = new PaneScreen();
        for (int window = 0; window < 4; window++) {
            p.open(3 * window, 0, 2, 2);
        }
        p.raise(1, true);
        p.raise(3, false);
        p.close(3);
        checks.same("order 1, 2, 0", p.figure(0), 1);
        p.close(1);
        checks.same("order 2, 0", p.figure(0), 2);
        p.close(2);
        checks.same("order 0", p.figure(0), 0);
        checks.lineIsEmpty(p);
    }

    private static void closeOfTheLast() {
        checks.about("Promise 3: or none");
        PaneScreen p = States.oneWindow(0, 0, 2, 2);
        p.close(0);
        figures(p, -1, 0, -1, 400, 400, 1, 0);
        checks.same("a key goes to none", p.key(1), false);
    }

    private static void closeOfAnother() {
        checks.about("Promise 3: if it had not the focus, the one that has it keeps it");
        PaneScreen p = States.twoWindows();
        p.raise(0, true);
        p.close(0);
        checks.same("the first one in the order is closed", p.figure(0), 1);
        PaneScreen q = States.twoWindows();
        q.open(8, 0, 2, 2);
        q.click(0, 0);
        q.raise(0, false);
        q.close(1);
        checks.same("the focus is the last in the order", q.figure(0), 0);
        checks.same("another is the first", q.figure(2), 2);
    }

    private static void closeWithoutFocus() {
        checks.about("Promise 3: if none had the focus, none has it then");
        PaneScreen p = States.twoWindows();
        p.click(20, 10);
        p.close(1);
        checks.same("one is left", p.figure(1), 1);
        checks.same("it has not the focus", p.figure(0), -1);
    }

    private static void moveDamagesBothFrames() {
        checks.about("Promise 4: gives a window another place; its old frame, then the new one, are damaged");
        PaneScreen p = States.oneWindow(0, 0, 3, 2);
        p.fill(0, 0, 0, 1023, 8);
        p.flush();
        p.move(0, 4, 1);
        checks.same("two rectangles", p.figure(5), 2);
        checks.same("its cells are at the new place", p.at(6, 2), 0);
        checks.same("not at the old one", p.at(0, 0), -1);
        checks.same("cells of both", p.flush(), 12);
        checks.same("painted", Look.screen(p, 0, 0, 8, 4), "......../....888./....888./........");
        p.move(0, 5, 1);
        checks.same("cells of both, the common ones once", p.flush(), 8);
    }

    private static void moveToTheSamePlace() {
        checks.about("Promise 4: (also if they are the same)");
        PaneScreen p = States.oneWindow(3, 3, 3, 2);
        p.move(0, 3, 3);
        checks.same("two rectangles", p.figure(5), 2);
        checks.same("each cell once", p.flush(), 6);
    }

    private static void moveDamagesTheOldFrameFirst() {
        checks.about("Promise 4: its old frame, then the new one");
        PaneScreen p = States.oneWindow(0, 0, 1, 1);
        for (int k = 0; k < 6; k++) {
            p.plot(0, 0, 0, k);
        }
        p.move(0, 9, 9);
        checks.same("the old one is the seventh, the new one stands alone", p.figure(5), 2);
        checks.same("the two cells", p.flush(), 2);
        for (int k = 0; k < 5; k++) {
            p.plot(0, 0, 0, k);
        }
        p.move(0, 7, 8);
        checks.same("the new one is the seventh", p.figure(5), 1);
        checks.same("all from the new to the old one", p.flush(), 6);
    }

    private static void moveOutAndIn() {
        checks.about("Promise 4: x and y are -50 .. 50");
        PaneScreen p = States.oneWindow(0, 0, 3, 2);
        p.move(0, -2, -1);
        checks.same("one cell is left", p.visible(0), 1);
        checks.same("old frame", p.flush(), 6);
        p.move(0, -3, -1);
        checks.same("none is left", p.visible(0), 0);
        checks.same("the old frame alone", p.figure(5), 1);
        p.flush();
        p.move(0, -50, 50);
        p.move(0, 50, -50);
        checks.same("neither", p.figure(5), 0);
        p.move(0, 23, 15);
        checks.same("the new frame alone", p.figure(5), 1);
        checks.same("one cell", p.flush(), 1);
    }

    private static void moveKeepsTheRest() {
        checks.about("Promise 4: gives a window another place, and nothing else");
        PaneScreen p = States.twoWindows();
        p.fill(0, 0, 0, 33, 3);
        p.pen(0, 1, 1);
        p.move(0, 4, 0);
        checks.same("order", p.figure(2), 1);
        checks.same("focus", p.figure(0), 1);
        checks.same("picture", Look.picture(p, 0, 2, 2), "3./..");
        checks.same("pen", p.line(0, 1, 1, 4), 1);
        checks.same("where the pen was", Look.picture(p, 0, 2, 2), "3./.4");
        checks.lineIsEmpty(p);
    }

    private static PaneScreen threeInARow() {
        PaneScreen p = new PaneScreen();
        for (int window = 0; window < 3; window++) {
            p.open(window, 0, 4, 2);
        }
        p.flush();
        return p;
    }

    private static String order(PaneScreen p) {
        StringBuilder text = new StringBuilder();
        for (int k = 0; k < 3; k++) {
            int first = p.figure(2);
            text.append(first);
            p.close(first);
        }
        return text.toString();
    }

    private static void raiseToTheFront() {
        checks.about("Promise 5: puts a window in front of all others; whether its place in the order changed");
        String[] due = {"021", "120", "210"};
        for (int window = 0; window < 3; window++) {
            PaneScreen p = threeInARow();
            checks.same("raise " + window, p.raise(window, true), window != 2);
            checks.same("rectangles", p.figure(5), window == 2 ? 0 : 1);
            checks.same("cells of its frame", p.flush(), window == 2 ? 0 : 8);
            checks.same("order", order(p), due[window]);
        }
    }

    private static void raiseBehind() {
        checks.about("Promise 5: or behind them; whether its place in the order changed");
        String[] due = {"210", "201", "102"};
        for (int window = 0; window < 3; window++) {
            PaneScreen p = threeInARow();
            checks.same("lower " + window, p.raise(window, false), window != 0);
            checks.same("rectangles", p.figure(5), window == 0 ? 0 : 1);
            checks.same("cells of its frame", p.flush(), window == 0 ? 0 : 8);
            checks.same("order", order(p), due[window]);
        }
    }

    private static void raiseThatChangesNothing() {
        checks.about("Promise 5: if its place in the order does not change, nothing is damaged");
        String no = Integer.toString(Answer.number(false));
        for (boolean front : new boolean[] {true, false}) {
            twins.unchanged("alone, " + front, no, () -> States.oneWindow(0, 0, 2, 2),
                    p -> Answer.of(() -> Answer.number(p.raise(0, front))));
            twins.unchanged("first or last of three, " + front, no, WindowsTest::threeInARow,
                    p -> Answer.of(() -> Answer.number(p.raise(front ? 2 : 0, front))));
        }
        PaneScreen p = States.twoWindows();
        checks.same("first of two", p.raise(1, true), false);
        checks.same("last of two", p.raise(0, false), false);
        checks.same("last of two to the front", p.raise(0, true), true);
        checks.same("last of two behind", p.raise(1, false), false);
        checks.same("first of two behind", p.raise(0, false), true);
    }

    private static void raiseOutsideOfTheScreen() {
        checks.about("Promise 5: its frame is damaged, as much of it as is on the screen");
        PaneScreen p = threeInARow();
        p.move(0, -3, -1);
        p.move(1, -4, 0);
        p.flush();
        checks.same("one cell on the screen", p.raise(0, true), true);
        checks.same("it is damaged", p.flush(), 1);
        checks.same("none on the screen", p.raise(1, true), true);
        checks.same("nothing is damaged", p.figure(5), 0);
        checks.same("it is in front all the same", p.figure(2), 1);
    }

    private static void raiseKeepsTheRest() {
        checks.about("Promise 5: puts a window in front or behind, and nothing else");
        PaneScreen p = threeInARow();
        p.raise(0, true);
        checks.same("focus", p.figure(0), 2);
        p.raise(2, false);
        checks.same("focus of the last", p.figure(0), 2);
        checks.lineIsEmpty(p);
        checks.same("hidden by none", p.visible(0), 8);
        checks.same("hidden by both", p.visible(2), 2);
    }
}
