/** Objects in states that tests begin from; each is made within some seventy calls. */
final class States {
    private States() {
    }

    /**
     * Windows 0, 2, 3 and 4 are open, 1 was; six rectangles and eleven events stand, one event was taken:
     * one rectangle or two events more than there should be can be seen.
     */
    static PaneScreen busy() {
        PaneScreen p = new PaneScreen();
        p.open(1, 1, 6, 5);
        p.open(4, 3, 5, 5);
        p.open(-2, 10, 7, 4);
        p.open(20, 12, 6, 6);
        p.open(8, 2, 3, 9);
        for (int window = 0; window < 5; window++) {
            p.fill(window, 0, 0, 1023, 10 + window);
            p.plot(window, 1, 1, 100 + window);
            p.pen(window, window, 1);
        }
        p.close(1);
        p.click(2, 2);
        p.key(65);
        p.click(21, 13);
        p.next();
        for (int code = 66; code < 71; code++) {
            p.key(code);
        }
        p.raise(2, true);
        p.flush();
        p.plot(0, 0, 0, 1);
        p.plot(0, 5, 4, 2);
        p.plot(2, 3, 3, 3);
        p.plot(3, 2, 2, 4);
        p.plot(4, 0, 1, 5);
        p.plot(4, 2, 8, 6);
        return p;
    }

    /** All eight are open, the store has room; the line is full, and two events were dropped. */
    static PaneScreen allOpen() {
        PaneScreen p = new PaneScreen();
        for (int window = 0; window < 8; window++) {
            p.open(3 * window - 2, 2 * window, 4, 3);
            p.fill(window, 0, 0, 1023, window + 1);
        }
        for (int code = 0; code < 14; code++) {
            p.key(code);
        }
        p.flush();
        p.plot(3, 1, 1, 9);
        return p;
    }

    /** Two windows have the whole store. */
    static PaneScreen storeFull() {
        PaneScreen p = new PaneScreen();
        p.open(0, 0, 24, 16);
        p.open(2, 2, 16, 1);
        return p;
    }

    /** 202 cells of the store are free, no more than 99 side by side. */
    static PaneScreen scattered() {
        PaneScreen p = new PaneScreen();
        for (int window = 0; window < 4; window++) {
            p.open(window, window, 11, 9);
        }
        p.close(0);
        p.close(2);
        return p;
    }

    static PaneScreen allOpenAndStoreFull() {
        PaneScreen p = new PaneScreen();
        for (int window = 0; window < 8; window++) {
            p.open(window, window, 10, 5);
        }
        return p;
    }

    /** One window, painted; nothing is damaged. */
    static PaneScreen oneWindow(int x, int y, int width, int height) {
        PaneScreen p = new PaneScreen();
        p.open(x, y, width, height);
        p.flush();
        return p;
    }

    /** Two windows that do not touch, 0 and 1; window 1 has the focus, nothing is damaged. */
    static PaneScreen twoWindows() {
        PaneScreen p = new PaneScreen();
        p.open(0, 0, 2, 2);
        p.open(4, 0, 2, 2);
        p.flush();
        return p;
    }
}
