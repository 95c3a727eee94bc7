/** Promise 20: each figure where it is least, where it is greatest, and between. */
public final class FiguresTest {
    private static final Checks checks = new Checks();

    public static void main(String[] args) {
        focus();
        howManyAreOpen();
        firstInTheOrder();
        freeCells();
        longestFreeStretch();
        rectangles();
        eventsInTheLine();
        droppedEvents();
        paintedCells();
        allOfABusyObject();
        checks.finish();
    }

    private static void focus() {
        checks.about("Promise 20, k = 0: the window that has the focus (-1 for none)");
        PaneScreen p = new PaneScreen();
        checks.same("new", p.figure(0), -1);
        for (int window = 0; window < 8; window++) {
            p.open(window, 0, 1, 1);
            checks.same("opened", p.figure(0), window);
        }
        p.click(0, 0);
        checks.same("clicked", p.figure(0), 0);
        p.close(0);
        checks.same("the first that is left", p.figure(0), 7);
        p.click(0, 9);
        checks.same("clicked beside all", p.figure(0), -1);
    }

    private static void howManyAreOpen() {
        checks.about("Promise 20, k = 1: how many are open");
        PaneScreen p = new PaneScreen();
        for (int many = 0; many < 8; many++) {
            checks.same("open", p.figure(1), many);
            p.open(-50, -50, 1, 1);
        }
        for (int many = 8; many > 0; many--) {
            checks.same("still open", p.figure(1), many);
            p.close(8 - many);
        }
        checks.same("none", p.figure(1), 0);
    }

    private static void firstInTheOrder() {
        checks.about("Promise 20, k = 2: the first one in the order (-1 for none)");
        PaneScreen p = new PaneScreen();
        checks.same("new", p.figure(2), -1);
        p.open(-50, -50, 1, 1);
        checks.same("outside of the screen", p.figure(2), 0);
        p.open(0, 0, 1, 1);
        checks.same("opened", p.figure(2), 1);
        p.raise(1, false);
        checks.same("put behind", p.figure(2), 0);
        checks.same("the focus is another", p.figure(0), 1);
        p.close(0);
        checks.same("one is left", p.figure(2), 1);
        p.close(1);
        checks.same("none is left", p.figure(2), -1);
    }

    private static void freeCells() {
        checks.about("Promise 20, k = 3: how many cells of the store are free");
        PaneScreen p = new PaneScreen();
        checks.same("all", p.figure(3), 400);
        p.open(0, 0, 1, 1);
        checks.same("all but one", p.figure(3), 399);
        p.open(0, 0, 24, 16);
        checks.same("fifteen", p.figure(3), 15);
        p.open(0, 0, 15, 1);
        checks.same("none", p.figure(3), 0);
        p.close(1);
        checks.same("as many as were closed", p.figure(3), 384);
        p.close(0);
        p.close(2);
        checks.same("all again", p.figure(3), 400);
    }

    private static void longestFreeStretch() {
        checks.about("Promise 20, k = 4: the length of its longest free stretch");
        PaneScreen p = new PaneScreen();
        checks.same("all", p.figure(4), 400);
        p.open(0, 0, 20, 5);
        p.open(0, 0, 20, 5);
        p.open(0, 0, 20, 5);
        checks.same("at the end", p.figure(4), 100);
        p.open(0, 0, 20, 4);
        checks.same("at the end, shorter", p.figure(4), 20);
        p.open(0, 0, 20, 1);
        checks.same("none", p.figure(4), 0);
        p.close(1);
        checks.same("between", p.figure(4), 100);
        p.close(3);
        checks.same("the longer one is first", p.figure(4), 100);
        p.close(4);
        checks.same("alike", p.figure(4), 100);
        p.close(0);
        checks.same("at the start", p.figure(4), 200);
        p.close(2);
        checks.same("all again", p.figure(4), 400);
    }

    private static void rectangles() {
        checks.about("Promise 20, k = 5: how many rectangles the damage has");
        PaneScreen p = new PaneScreen();
        checks.same("new", p.figure(5), 0);
        p.open(0, 0, 2, 2);
        checks.same("one", p.figure(5), 1);
        p.move(0, 1, 1);
        checks.same("three", p.figure(5), 3);
        p.flush();
        checks.same("painted", p.figure(5), 0);
    }

    private static void eventsInTheLine() {
        checks.about("Promise 20, k = 6: how many events stand in the line");
        PaneScreen p = States.oneWindow(0, 0, 1, 1);
        for (int many = 0; many < 12; many++) {
            checks.same("events", p.figure(6), many);
            p.key(many);
        }
        checks.same("twelve", p.figure(6), 12);
        p.key(12);
        checks.same("twelve still", p.figure(6), 12);
        p.next();
        checks.same("eleven", p.figure(6), 11);
        p.close(0);
        checks.same("none", p.figure(6), 0);
    }

    private static void droppedEvents() {
        checks.about("Promise 20, k = 7: how many were dropped in all");
        PaneScreen p = States.oneWindow(0, 0, 1, 1);
        for (int code = 0; code < 12; code++) {
            p.key(code);
        }
        checks.same("none", p.figure(7), 0);
        p.key(12);
        p.click(0, 0);
        checks.same("two", p.figure(7), 2);
        p.next();
        p.key(13);
        checks.same("two still", p.figure(7), 2);
        p.close(0);
        checks.same("taken out is not dropped", p.figure(7), 2);
        p.open(0, 0, 1, 1);
        for (int code = 0; code < 13; code++) {
            p.key(code);
        }
        checks.same("in all, also of a closed window", p.figure(7), 3);
    }

    private static void paintedCells() {
        checks.about("Promise 20, k = 8: how many cells were painted in all");
        PaneScreen p = new PaneScreen();
        p.flush();
        checks.same("none", p.figure(8), 0);
        p.open(0, 0, 24, 16);
        checks.same("none before a flush", p.figure(8), 0);
        p.flush();
        checks.same("the whole screen", p.figure(8), 384);
        p.plot(0, 0, 0, 0);
        p.flush();
        checks.same("and one", p.figure(8), 385);
        p.close(0);
        p.flush();
        p.flush();
        checks.same("and all once more", p.figure(8), 769);
    }

    private static void allOfABusyObject() {
        checks.about("Promise 20: all figures of one object");
        int taken = 30 + 28 + 36 + 27;
        int[] due = {3, 4, 2, 400 - taken, 400 - taken - 25, 6, 11, 0};
        PaneScreen p = States.busy();
        for (int k = 0; k < due.length; k++) {
            checks.same("figure(" + k + ")", p.figure(k), due[k]);
        }
        PaneScreen q = States.allOpen();
        int[] dueOfAll = {7, 8, 7, 304, 304, 1, 12, 2};
        for (int k = 0; k < dueOfAll.length; k++) {
            checks.same("figure(" + k + ") with all open", q.figure(k), dueOfAll[k]);
        }
    }
}
