import java.util.NoSuchElementException;

/** A screen of windows that lie over one another, painted anew only where it was changed. */
public final class PaneScreen {
    public static final int CLICK = 1;
    public static final int KEY = 2;
    public static final int GOT = 3;
    public static final int LOST = 4;

    private static final int COLUMNS = 24;
    private static final int ROWS = 16;
    private static final int WINDOWS = 8;
    private static final int STORE_CELLS = 400;
    private static final int DAMAGE_LIMIT = 6;
    private static final int LINE_LIMIT = 12;
    private static final int FARTHEST = 50;
    private static final int GREATEST_COLOUR = 255;
    private static final int GREATEST_EXTENT = 1023;
    private static final int EXTENT_BASE = 32;
    private static final int NONE = -1;

    private final int[] shown;
    private final Pane[] panes;
    private final Order order;
    private final Store store;
    private final Damage damage;
    private final EventLine events;
    private int focus;
    private int painted;

    public PaneScreen() {
        shown = new int[COLUMNS * ROWS];
        panes = new Pane[WINDOWS];
        for (int window = 0; window < WINDOWS; window++) {
            panes[window] = new Pane();
        }
        order = new Order();
        store = new Store();
        damage = new Damage();
        events = new EventLine();
        focus = NONE;
        painted = 0;
    }

    public int open(int x, int y, int width, int height)
            throws IllegalArgumentException, IllegalStateException {
        requireNear(x, y);
        requireSize(width, height);
        int window = leastClosed();
        int start = store.firstFree(width * height);
        if (window == NONE || start == NONE) {
            throw new IllegalStateException();
        }
        store.take(start, width * height);
        panes[window].begin(start, width, height);
        panes[window].place(x, y);
        order.addInFront(window);
        damageFrame(panes[window]);
        focus = window;
        return window;
    }

    public void close(int window) throws NoSuchElementException {
        Pane pane = openPane(window);
        damageFrame(pane);
        store.release(pane.start, pane.width * pane.height);
        pane.end();
        order.remove(window);
        events.removeAllOf(window);
        if (focus == window) {
            focus = order.first();
        }
    }

    public void move(int window, int x, int y)
            throws NoSuchElementException, IllegalArgumentException {
        Pane pane = openPane(window);
        requireNear(x, y);
        damageFrame(pane);
        pane.place(x, y);
        damageFrame(pane);
    }

    public boolean raise(int window, boolean front) throws NoSuchElementException {
        Pane pane = openPane(window);
        return reorder(window, pane, front);
    }

    public boolean plot(int window, int u, int v, int colour)
            throws NoSuchElementException, IllegalArgumentException {
        Pane pane = openPane(window);
        requireColour(colour);
        if (!pane.has(u, v)) {
            return false;
        }
        store.colours[pane.cell(u, v)] = colour;
        damagePart(pane, u, v, u + 1, v + 1);
        return true;
    }

    public int fill(int window, int u, int v, int extent, int colour)
            throws NoSuchElementException, IllegalArgumentException {
        Pane pane = openPane(window);
        requireNear(u, v);
        requireExtent(extent);
        requireColour(colour);
        int left = Math.max(u, 0);
        int top = Math.max(v, 0);
        int right = Math.min(u + extent % EXTENT_BASE, pane.width);
        int bottom = Math.min(v + extent / EXTENT_BASE, pane.height);
        if (left >= right || top >= bottom) {
            return 0;
        }
        for (int j = top; j < bottom; j++) {
            for (int i = left; i < right; i++) {
                store.colours[pane.cell(i, j)] = colour;
            }
        }
        damagePart(pane, left, top, right, bottom);
        return (right - left) * (bottom - top);
    }

    public void pen(int window, int u, int v)
            throws NoSuchElementException, IllegalArgumentException {
        Pane pane = openPane(window);
        requireNear(u, v);
        pane.putPen(u, v);
    }

    public int line(int window, int u, int v, int colour)
            throws NoSuchElementException, IllegalArgumentException {
        Pane pane = openPane(window);
        requireNear(u, v);
        requireColour(colour);
        int drawn = drawFromPen(pane, u, v, colour);
        pane.putPen(u, v);
        return drawn;
    }

    public void scroll(int window, int u, int v)
            throws NoSuchElementException, IllegalArgumentException {
        Pane pane = openPane(window);
        requireNear(u, v);
        store.keepOld();
        for (int j = 0; j < pane.height; j++) {
            for (int i = 0; i < pane.width; i++) {
                boolean found = pane.has(i + u, j + v);
                store.colours[pane.cell(i, j)] = found ? store.old[pane.cell(i + u, j + v)] : 0;
            }
        }
        damageFrame(pane);
    }

    public int flush() {
        int count = 0;
        for (int y = 0; y < ROWS; y++) {
            for (int x = 0; x < COLUMNS; x++) {
                if (damage.holds(x, y)) {
                    shown[y * COLUMNS + x] = colourBelow(x, y);
                    count++;
                }
            }
        }
        damage.forget();
        painted += count;
        return count;
    }

    public int screen(int x, int y) throws IndexOutOfBoundsException {
        requireOnScreen(x, y);
        return shown[y * COLUMNS + x];
    }

    public int picture(int window, int u, int v)
            throws NoSuchElementException, IndexOutOfBoundsException {
        Pane pane = openPane(window);
        if (!pane.has(u, v)) {
            throw new IndexOutOfBoundsException();
        }
        return store.colours[pane.cell(u, v)];
    }

    public int at(int x, int y) throws IndexOutOfBoundsException {
        requireOnScreen(x, y);
        return ownerOf(x, y);
    }

    public int visible(int window) throws NoSuchElementException {
        openPane(window);
        int count = 0;
        for (int y = 0; y < ROWS; y++) {
            for (int x = 0; x < COLUMNS; x++) {
                if (ownerOf(x, y) == window) {
                    count++;
                }
            }
        }
        return count;
    }

    public int click(int x, int y) throws IndexOutOfBoundsException {
        requireOnScreen(x, y);
        int window = ownerOf(x, y);
        giveFocus(window);
        if (window != NONE) {
            Pane pane = panes[window];
            reorder(window, pane, true);
            events.tell(CLICK, window, x - pane.x, y - pane.y);
        }
        return window;
    }

    public boolean key(int code) {
        if (focus == NONE) {
            return false;
        }
        events.tell(KEY, focus, code, 0);
        return true;
    }

    public int next() throws NoSuchElementException {
        if (events.count == 0) {
            throw new NoSuchElementException();
        }
        events.takeFirst();
        return events.takenKind;
    }

    public int event(int what) throws IllegalStateException, IllegalArgumentException {
        if (events.takenKind == NONE) {
            throw new IllegalStateException();
        }
        switch (what) {
            case 0:
                return events.takenWindow;
            case 1:
                return events.takenOne;
            case 2:
                return events.takenTwo;
            default:
                throw new IllegalArgumentException();
        }
    }

    public int figure(int k) throws IllegalArgumentException {
        switch (k) {
            case 0:
                return focus;
            case 1:
                return order.count;
            case 2:
                return order.first();
            case 3:
                return store.freeCells();
            case 4:
                return store.longestFree();
            case 5:
                return damage.count;
            case 6:
                return events.count;
            case 7:
                return events.dropped;
            case 8:
                return painted;
            default:
                throw new IllegalArgumentException();
        }
    }

    private Pane openPane(int window) {
        if (window < 0 || window >= WINDOWS || !panes[window].used) {
            throw new NoSuchElementException();
        }
        return panes[window];
    }

    private static void requireNear(int a, int b) {
        if (a < -FARTHEST || a > FARTHEST || b < -FARTHEST || b > FARTHEST) {
            throw new IllegalArgumentException();
        }
    }

    private static void requireSize(int width, int height) {
        if (width < 1 || width > COLUMNS || height < 1 || height > ROWS) {
            throw new IllegalArgumentException();
        }
    }

    private static void requireExtent(int extent) {
        if (extent < 0 || extent > GREATEST_EXTENT) {
            throw new IllegalArgumentException();
        }
    }

    private static void requireColour(int colour) {
        if (colour < 0 || colour > GREATEST_COLOUR) {
            throw new IllegalArgumentException();
        }
    }

    private static void requireOnScreen(int x, int y) {
        if (x < 0 || x >= COLUMNS || y < 0 || y >= ROWS) {
            throw new IndexOutOfBoundsException();
        }
    }

    private int leastClosed() {
        for (int window = 0; window < WINDOWS; window++) {
            if (!panes[window].used) {
                return window;
            }
        }
        return NONE;
    }

    private int ownerOf(int x, int y) {
        for (int rank = 0; rank < order.count; rank++) {
            int window = order.windows[rank];
            if (panes[window].covers(x, y)) {
                return window;
            }
        }
        return NONE;
    }

    private int colourBelow(int x, int y) {
        int window = ownerOf(x, y);
        if (window == NONE) {
            return 0;
        }
        Pane pane = panes[window];
        return store.colours[pane.cell(x - pane.x, y - pane.y)];
    }

    private void damageFrame(Pane pane) {
        damagePart(pane, 0, 0, pane.width, pane.height);
    }

    private void damagePart(Pane pane, int left, int top, int right, int bottom) {
        damage.add(pane.x + left, pane.y + top, pane.x + right, pane.y + bottom);
    }

    private boolean reorder(int window, Pane pane, boolean front) {
        boolean changes = window != (front ? order.first() : order.last());
        if (changes) {
            order.remove(window);
            if (front) {
                order.addInFront(window);
            } else {
                order.addBehind(window);
            }
            damageFrame(pane);
        }
        return changes;
    }

    private void giveFocus(int window) {
        if (window == focus) {
            return;
        }
        if (focus != NONE) {
            events.tell(LOST, focus, 0, 0);
        }
        focus = window;
        if (focus != NONE) {
            events.tell(GOT, focus, 0, 0);
        }
    }

    private int drawFromPen(Pane pane, int u, int v, int colour) {
        int a = u - pane.penU;
        int b = v - pane.penV;
        int n = Math.max(Math.abs(a), Math.abs(b));
        int left = pane.width;
        int top = pane.height;
        int right = 0;
        int bottom = 0;
        int drawn = 0;
        for (int k = 0; k <= n; k++) {
            int i = pane.penU + stepped(k, a, n);
            int j = pane.penV + stepped(k, b, n);
            if (pane.has(i, j)) {
                store.colours[pane.cell(i, j)] = colour;
                left = Math.min(left, i);
                top = Math.min(top, j);
                right = Math.max(right, i + 1);
                bottom = Math.max(bottom, j + 1);
                drawn++;
            }
        }
        if (drawn > 0) {
            damagePart(pane, left, top, right, bottom);
        }
        return drawn;
    }

    private static int stepped(int k, int distance, int n) {
        if (n == 0) {
            return 0;
        }
        return Math.floorDiv(2 * k * distance + n, 2 * n);
    }

    /** A window's frame, pen and stretch of the store; made once and used again when it is opened again. */
    private static final class Pane {
        boolean used;
        int x;
        int y;
        int width;
        int height;
        int start;
        int penU;
        int penV;

        void begin(int firstCell, int columns, int rows) {
            used = true;
            start = firstCell;
            width = columns;
            height = rows;
            putPen(0, 0);
        }

        void end() {
            used = false;
        }

        void place(int column, int row) {
            x = column;
            y = row;
        }

        void putPen(int u, int v) {
            penU = u;
            penV = v;
        }

        boolean has(int u, int v) {
            return u >= 0 && u < width && v >= 0 && v < height;
        }

        boolean covers(int column, int row) {
            return has(column - x, row - y);
        }

        int cell(int u, int v) {
            return start + v * width + u;
        }
    }

    /** The open windows from the front to the back. */
    private static final class Order {
        final int[] windows = new int[WINDOWS];
        int count;

        int first() {
            return count == 0 ? NONE : windows[0];
        }

        int last() {
            return count == 0 ? NONE : windows[count - 1];
        }

        void addInFront(int window) {
            if (count >= WINDOWS) {
                return;
            }
            for (int rank = count; rank > 0; rank--) {
                windows[rank] = windows[rank - 1];
            }
            windows[0] = window;
            count++;
        }

        void addBehind(int window) {
            if (count >= WINDOWS) {
                return;
            }
            windows[count] = window;
            count++;
        }

        void remove(int window) {
            int kept = 0;
            for (int rank = 0; rank < count; rank++) {
                if (windows[rank] != window) {
                    windows[kept] = windows[rank];
                    kept++;
                }
            }
            count = kept;
        }
    }

    /** The colours of all pictures, and which cells of the store belong to one. */
    private static final class Store {
        final int[] colours = new int[STORE_CELLS];
        final int[] old = new int[STORE_CELLS];
        final boolean[] taken = new boolean[STORE_CELLS];

        int firstFree(int size) {
            int run = 0;
            for (int cell = 0; cell < STORE_CELLS; cell++) {
                run = taken[cell] ? 0 : run + 1;
                if (run == size) {
                    return cell - size + 1;
                }
            }
            return NONE;
        }

        void take(int start, int size) {
            for (int cell = start; cell < start + size; cell++) {
                taken[cell] = true;
                colours[cell] = 0;
            }
        }

        void release(int start, int size) {
            for (int cell = start; cell < start + size; cell++) {
                taken[cell] = false;
            }
        }

        /** A scroll reads from here, so that no cell is read after it has been overwritten. */
        void keepOld() {
            System.arraycopy(colours, 0, old, 0, STORE_CELLS);
        }

        int freeCells() {
            int free = 0;
            for (int cell = 0; cell < STORE_CELLS; cell++) {
                if (!taken[cell]) {
                    free++;
                }
            }
            return free;
        }

        int longestFree() {
            int longest = 0;
            int run = 0;
            for (int cell = 0; cell < STORE_CELLS; cell++) {
                run = taken[cell] ? 0 : run + 1;
                longest = Math.max(longest, run);
            }
            return longest;
        }
    }

    /** Rectangles of the screen; right and bottom are the first column and row behind them. */
    private static final class Damage {
        final int[] lefts = new int[DAMAGE_LIMIT];
        final int[] tops = new int[DAMAGE_LIMIT];
        final int[] rights = new int[DAMAGE_LIMIT];
        final int[] bottoms = new int[DAMAGE_LIMIT];
        int count;

        void add(int left, int top, int right, int bottom) {
            int onLeft = Math.max(left, 0);
            int onTop = Math.max(top, 0);
            int onRight = Math.min(right, COLUMNS);
            int onBottom = Math.min(bottom, ROWS);
            if (onLeft >= onRight || onTop >= onBottom) {
                return;
            }
            if (count < DAMAGE_LIMIT) {
                put(count, onLeft, onTop, onRight, onBottom);
                count++;
            } else {
                joinAllWith(onLeft, onTop, onRight, onBottom);
            }
        }

        boolean holds(int x, int y) {
            for (int k = 0; k < count; k++) {
                if (x >= lefts[k] && x < rights[k] && y >= tops[k] && y < bottoms[k]) {
                    return true;
                }
            }
            return false;
        }

        void forget() {
            count = 0;
        }

        private void put(int k, int left, int top, int right, int bottom) {
            lefts[k] = left;
            tops[k] = top;
            rights[k] = right;
            bottoms[k] = bottom;
        }

        private void joinAllWith(int left, int top, int right, int bottom) {
            int least = left;
            int upmost = top;
            int greatest = right;
            int lowest = bottom;
            for (int k = 0; k < count; k++) {
                least = Math.min(least, lefts[k]);
                upmost = Math.min(upmost, tops[k]);
                greatest = Math.max(greatest, rights[k]);
                lowest = Math.max(lowest, bottoms[k]);
            }
            put(0, least, upmost, greatest, lowest);
            count = 1;
        }
    }

    /** The events that wait, and the one taken last, which outlives its window. */
    private static final class EventLine {
        final int[] kinds = new int[LINE_LIMIT];
        final int[] windows = new int[LINE_LIMIT];
        final int[] ones = new int[LINE_LIMIT];
        final int[] twos = new int[LINE_LIMIT];
        int count;
        int dropped;
        int takenKind = NONE;
        int takenWindow;
        int takenOne;
        int takenTwo;

        void tell(int kind, int window, int one, int two) {
            if (count >= LINE_LIMIT) {
                dropped++;
                return;
            }
            kinds[count] = kind;
            windows[count] = window;
            ones[count] = one;
            twos[count] = two;
            count++;
        }

        void takeFirst() {
            if (count == 0) {
                return;
            }
            takenKind = kinds[0];
            takenWindow = windows[0];
            takenOne = ones[0];
            takenTwo = twos[0];
            for (int k = 1; k < count; k++) {
                copy(k, k - 1);
            }
            count--;
        }

        void removeAllOf(int window) {
            int kept = 0;
            for (int k = 0; k < count; k++) {
                if (windows[k] != window) {
                    copy(k, kept);
                    kept++;
                }
            }
            count = kept;
        }

        private void copy(int from, int to) {
            kinds[to] = kinds[from];
            windows[to] = windows[from];
            ones[to] = ones[from];
            twos[to] = twos[from];
        }
    }
}
