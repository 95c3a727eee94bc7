import java.util.NoSuchElementException;

/** Promises 16 to 19: click, key, next and event; each sentence, and both sides of its boundaries. */
public final class EventsTest {
    private static final Class<?> ELEMENT = NoSuchElementException.class;

    private static final Checks checks = new Checks();
    private static final Twins twins = new Twins(checks);

    public static void main(String[] args) {
        clickOnTheFocus();
        clickOnAnother();
        clickWithoutFocus();
        clickOnTheFirstThatCovers();
        clickPutsInFront();
        clickOnWhatIsInFront();
        clickTellsTheCell();
        clickOnNone();
        clickOnNoneWithoutFocus();
        clickWithAFullLine();
        clickOnNoneWithAFullLine();
        clickDropsAndActs();
        keyForTheFocus();
        keyOfAnyCode();
        keyWithoutFocus();
        keyWithAFullLine();
        nextInTheirOrder();
        nextOfTheLast();
        eventOfEachKind();
        eventTakenLast();
        eventOutlivesItsWindow();
        checks.finish();
    }

    private static void clickOnTheFocus() {
        checks.about("Promise 16: if this one has the focus, CLICK alone is told");
        PaneScreen p = States.twoWindows();
        checks.same("the window", p.click(4, 0), 1);
        checks.same("the focus", p.figure(0), 1);
        checks.nextIs(p, PaneScreen.CLICK, 1, 0, 0);
        checks.lineIsEmpty(p);
    }

    private static void clickOnAnother() {
        checks.about("Promise 16: LOST is told for the one that has it, it gets the focus, GOT is told; then CLICK");
        PaneScreen p = States.twoWindows();
        checks.same("the window", p.click(1, 0), 0);
        checks.same("the focus", p.figure(0), 0);
        checks.nextIs(p, PaneScreen.LOST, 1, 0, 0);
        checks.nextIs(p, PaneScreen.GOT, 0, 0, 0);
        checks.nextIs(p, PaneScreen.CLICK, 0, 1, 0);
        checks.lineIsEmpty(p);
    }

    private static void clickWithoutFocus() {
        checks.about("Promise 16: LOST is told for the one that has it (if there is one)");
        PaneScreen p = States.twoWindows();
        p.click(20, 10);
        p.next();
        checks.same("the window", p.click(5, 1), 1);
        checks.same("the focus", p.figure(0), 1);
        checks.nextIs(p, PaneScreen.GOT, 1, 0, 0);
        checks.nextIs(p, PaneScreen.CLICK, 1, 1, 1);
        checks.lineIsEmpty(p);
    }

    private static void clickOnTheFirstThatCovers() {
        checks.about("Promise 16: a click on a cell: if a window has it");
        PaneScreen p = new PaneScreen();
        p.open(0, 0, 3, 1);
        p.open(1, 0, 3, 1);
        checks.same("covered by both", p.click(1, 0), 1);
        checks.same("covered by one", p.click(0, 0), 0);
        checks.same("covered by both, the other one in front", p.click(1, 0), 0);
        checks.same("last cell of the one behind", p.click(3, 0), 1);
        checks.same("beside it", p.click(4, 0), -1);
        checks.same("below it", p.click(3, 1), -1);
    }

    private static void clickPutsInFront() {
        checks.about("Promise 16: then it is put in front as by raise()");
        PaneScreen p = new PaneScreen();
        for (int window = 0; window < 3; window++) {
            p.open(2 * window, 0, 3, 2);
        }
        p.flush();
        p.click(0, 0);
        checks.same("from behind", p.figure(2), 0);
        checks.same("its frame is damaged", p.figure(5), 1);
        checks.same("its cells", p.flush(), 6);
        checks.same("it has the common cell", p.at(2, 0), 0);
        checks.same("the others keep their order", p.at(4, 0), 2);
        p.raise(0, false);
        p.flush();
        p.click(0, 0);
        checks.same("the focus from behind", p.figure(2), 0);
        checks.same("its cells again", p.flush(), 6);
    }

    private static void clickOnWhatIsInFront() {
        checks.about("Promise 16: as by raise(): if its place in the order does not change, nothing is damaged");
        PaneScreen p = States.twoWindows();
        p.click(4, 0);
        checks.same("the focus", p.figure(5), 0);
        p.raise(0, true);
        p.flush();
        p.click(0, 0);
        checks.same("another than the focus", p.figure(5), 0);
    }

    private static void clickTellsTheCell() {
        checks.about("Promise 16: CLICK is told for it, with the cell of its picture (u, v)");
        int[][] places = {{3, 2, 3, 2, 0, 0}, {3, 2, 7, 4, 4, 2}, {-4, -2, 0, 0, 4, 2}, {23, 15, 23, 15, 0, 0},
            {-1, 14, 2, 15, 3, 1}, {0, 0, 1, 2, 1, 2}};
        for (int[] place : places) {
            PaneScreen p = new PaneScreen();
            p.open(place[0], place[1], 5, 3);
            p.click(place[2], place[3]);
            checks.nextIs(p, PaneScreen.CLICK, 0, place[4], place[5]);
        }
    }

    private static void clickOnNone() {
        checks.about("Promise 16: if none has it, and one has the focus, LOST is told, and none has it then; -1");
        PaneScreen p = States.twoWindows();
        checks.same("no window", p.click(23, 15), -1);
        checks.same("no focus", p.figure(0), -1);
        checks.same("the order stays", p.figure(2), 1);
        checks.same("nothing is damaged", p.figure(5), 0);
        checks.nextIs(p, PaneScreen.LOST, 1, 0, 0);
        checks.lineIsEmpty(p);
    }

    private static PaneScreen withoutFocus() {
        PaneScreen p = States.busy();
        p.click(23, 0);
        return p;
    }

    private static void clickOnNoneWithoutFocus() {
        checks.about("Promise 16: if none has it, and none has the focus");
        twins.unchanged("no window is open", "-1", PaneScreen::new, p -> Answer.of(() -> p.click(0, 0)));
        twins.unchanged("some are open", "-1", EventsTest::withoutFocus, p -> Answer.of(() -> p.click(23, 0)));
    }

    private static void clickWithAFullLine() {
        checks.about("Promise 16: three events are told, each one dropped if 12 are there");
        for (int standing = 8; standing <= 12; standing++) {
            PaneScreen p = States.twoWindows();
            for (int code = 0; code < standing; code++) {
                p.key(code);
            }
            p.click(1, 1);
            checks.same("standing after " + standing, p.figure(6), Math.min(standing + 3, 12));
            checks.same("dropped after " + standing, p.figure(7), Math.max(standing - 9, 0));
            for (int code = 0; code < standing; code++) {
                checks.nextIs(p, PaneScreen.KEY, 1, code, 0);
            }
            tellsTheFirstOf(p, 12 - standing);
        }
    }

    private static void tellsTheFirstOf(PaneScreen p, int room) {
        if (room >= 1) {
            checks.nextIs(p, PaneScreen.LOST, 1, 0, 0);
        }
        if (room >= 2) {
            checks.nextIs(p, PaneScreen.GOT, 0, 0, 0);
        }
        if (room >= 3) {
            checks.nextIs(p, PaneScreen.CLICK, 0, 1, 1);
        }
        checks.lineIsEmpty(p);
    }

    private static void clickOnNoneWithAFullLine() {
        checks.about("Promise 16: LOST is told for this one, or dropped if 12 are there");
        for (int standing = 11; standing <= 12; standing++) {
            PaneScreen p = States.twoWindows();
            for (int code = 0; code < standing; code++) {
                p.key(code);
            }
            checks.same("no window", p.click(20, 10), -1);
            checks.same("no focus", p.figure(0), -1);
            checks.same("twelve stand", p.figure(6), 12);
            checks.same("dropped after " + standing, p.figure(7), standing - 11);
        }
    }

    private static void clickDropsAndActs() {
        checks.about("Promise 16: it gets the focus and is put in front, also if the events are dropped");
        PaneScreen p = States.twoWindows();
        for (int code = 0; code < 12; code++) {
            p.key(code);
        }
        checks.same("the window", p.click(0, 0), 0);
        checks.same("the focus", p.figure(0), 0);
        checks.same("in front", p.figure(2), 0);
        checks.same("damaged", p.figure(5), 1);
        checks.same("dropped", p.figure(7), 3);
    }

    private static void keyForTheFocus() {
        checks.about("Promise 17: KEY is told for the window that has the focus, with code and 0: true");
        PaneScreen p = States.twoWindows();
        checks.same("first key", p.key(65), true);
        p.raise(0, true);
        checks.same("key for a window behind", p.key(66), true);
        p.close(1);
        checks.same("key for the one that has it then", p.key(67), true);
        checks.same("the closed one's are gone", p.figure(6), 1);
        checks.nextIs(p, PaneScreen.KEY, 0, 67, 0);
        p.move(0, 50, 50);
        checks.same("key for a window outside of the screen", p.key(68), true);
        checks.nextIs(p, PaneScreen.KEY, 0, 68, 0);
    }

    private static void keyOfAnyCode() {
        checks.about("Promise 17: with code, whatever it is");
        PaneScreen p = States.twoWindows();
        for (int code : new int[] {0, -1, 1, 255, 256, Integer.MIN_VALUE, Integer.MAX_VALUE}) {
            checks.same("key " + code, p.key(code), true);
            checks.nextIs(p, PaneScreen.KEY, 1, code, 0);
        }
    }

    private static void keyWithoutFocus() {
        checks.about("Promise 17: false if none has it");
        String no = Integer.toString(Answer.number(false));
        twins.unchanged("no window is open", no, PaneScreen::new, p -> Answer.of(() -> Answer.number(p.key(1))));
        twins.unchanged("some are open", no, EventsTest::withoutFocus, p -> Answer.of(() -> Answer.number(p.key(1))));
        PaneScreen p = withoutFocus();
        checks.same("twelve stand", p.figure(6), 12);
        p.key(1);
        checks.same("none is dropped", p.figure(7), 0);
        p.click(2, 2);
        checks.same("one has it again", p.key(1), true);
    }

    private static void keyWithAFullLine() {
        checks.about("Promise 17: true, also if the event is dropped");
        PaneScreen p = States.twoWindows();
        for (int code = 0; code < 12; code++) {
            checks.same("key " + code, p.key(code), true);
            checks.same("dropped", p.figure(7), 0);
        }
        checks.same("one more", p.key(12), true);
        checks.same("it is dropped", p.figure(7), 1);
        checks.same("twelve stand", p.figure(6), 12);
    }

    private static void nextInTheirOrder() {
        checks.about("Promise 18: takes the first event out of the line: its kind");
        PaneScreen p = States.twoWindows();
        p.key(1);
        p.click(0, 1);
        p.key(2);
        int[] due = {PaneScreen.KEY, PaneScreen.LOST, PaneScreen.GOT, PaneScreen.CLICK, PaneScreen.KEY};
        for (int k = 0; k < due.length; k++) {
            checks.same("standing", p.figure(6), due.length - k);
            checks.same("kind of " + k, p.next(), due[k]);
        }
        checks.lineIsEmpty(p);
    }

    private static void nextOfTheLast() {
        checks.about("Promise 18: no such element: there is none");
        PaneScreen p = States.oneWindow(0, 0, 1, 1);
        checks.refused("before the first", ELEMENT, p::next);
        for (int code = 0; code < 12; code++) {
            p.key(code);
        }
        for (int code = 0; code < 12; code++) {
            checks.nextIs(p, PaneScreen.KEY, 0, code, 0);
        }
        checks.refused("after the twelfth", ELEMENT, p::next);
        checks.same("the one taken last stays", p.event(1), 11);
    }

    private static void eventOfEachKind() {
        checks.about("Promise 19: what = 0: its window, 1 and 2: its numbers");
        PaneScreen p = States.twoWindows();
        p.key(-7);
        p.click(0, 1);
        checks.nextIs(p, PaneScreen.KEY, 1, -7, 0);
        checks.nextIs(p, PaneScreen.LOST, 1, 0, 0);
        checks.nextIs(p, PaneScreen.GOT, 0, 0, 0);
        checks.nextIs(p, PaneScreen.CLICK, 0, 0, 1);
        checks.same("its window once more", p.event(0), 0);
        checks.same("its second number once more", p.event(2), 1);
    }

    private static void eventTakenLast() {
        checks.about("Promise 19: of the event taken last");
        PaneScreen p = States.twoWindows();
        p.key(1);
        p.key(2);
        p.next();
        checks.same("the first", p.event(1), 1);
        p.key(3);
        checks.same("events that come do not change it", p.event(1), 1);
        p.next();
        checks.same("the second", p.event(1), 2);
        p.next();
        checks.refused("there is none", ELEMENT, p::next);
        checks.same("the third", p.event(1), 3);
    }

    private static void eventOutlivesItsWindow() {
        checks.about("Promise 19: of the event taken last, which stands in the line no more");
        PaneScreen p = States.twoWindows();
        p.click(5, 1);
        p.key(9);
        p.next();
        p.move(1, 0, 0);
        p.close(1);
        checks.lineIsEmpty(p);
        checks.same("its window", p.event(0), 1);
        checks.same("its first number", p.event(1), 1);
        checks.same("its second number", p.event(2), 1);
    }
}
