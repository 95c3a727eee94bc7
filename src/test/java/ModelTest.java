import java.util.ArrayList;
import java.util.NoSuchElementException;
import java.util.Random;
import java.util.function.IntBinaryOperator;
import java.util.function.IntSupplier;

/** Long runs of calls, right and wrong, each answer held against a plain model of the document. */
public final class ModelTest {
    private static final int RUNS = 900;
    private static final int CALLS = 512;
    private static final int CALLS_BEFORE_A_LOOK = 110;

    private final Checks checks;
    private final Random random;
    private final PaneScreen screen = new PaneScreen();
    private final Model model = new Model();

    private ModelTest(Checks checks, long seed) {
        this.checks = checks;
        this.random = new Random(seed);
    }

    public static void main(String[] args) {
        Checks checks = new Checks();
        for (int run = 0; run < RUNS && checks.wrong() == 0; run++) {
            new ModelTest(checks, run).run("run " + run);
        }
        checks.finish();
    }

    /** Within the calls of one object there is room for a long run, or for a short one and a look at all cells. */
    private void run(String name) {
        int style = random.nextInt(3);
        int look = random.nextInt(3);
        int calls = look == 0 ? CALLS : CALLS_BEFORE_A_LOOK;
        for (int call = 0; call < calls && checks.wrong() == 0; call++) {
            one(name + ", call " + call, random.nextInt(19), style);
        }
        if (look == 1) {
            both(name + " last flush", screen::flush, model::flush);
            compareCells(name + " screen", screen::screen, model::screen);
        } else if (look == 2) {
            compareCells(name + " at", screen::at, model::at);
        }
    }

    private void compareCells(String name, IntBinaryOperator got, IntBinaryOperator want) {
        for (int y = 0; y < 16; y++) {
            for (int x = 0; x < 24; x++) {
                checks.same(name, got.applyAsInt(x, y), want.applyAsInt(x, y));
            }
        }
    }

    private int among(int low, int high) {
        return low + random.nextInt(high - low + 1);
    }

    /** Mostly what the document allows, now and then just beside it or far away. */
    private int mostly(int low, int high) {
        int chance = random.nextInt(60);
        if (chance == 0) {
            return random.nextBoolean() ? low - 1 : high + 1;
        }
        if (chance == 1) {
            return random.nextInt();
        }
        return chance < 6 ? (random.nextBoolean() ? low : high) : among(low, high);
    }

    private int window() {
        return random.nextInt(40) == 0 ? random.nextInt() : among(-1, 8);
    }

    private int near() {
        return random.nextInt(4) == 0 ? mostly(-50, 50) : among(-6, 20);
    }

    private void one(String name, int which, int style) {
        int w = window();
        int a = near();
        int b = near();
        int colour = mostly(0, 255);
        switch (which) {
            case 0 -> {
                int width = style == 0 ? mostly(1, 24) : among(1, 9);
                int height = style == 0 ? mostly(1, 16) : among(1, 7);
                both(name + " open", () -> screen.open(a, b, width, height), () -> model.open(a, b, width, height));
            }
            case 1 -> {
                if (random.nextInt(style + 1) == 0) {
                    both(name + " close", () -> done(() -> screen.close(w)), () -> model.close(w));
                }
            }
            case 2 -> both(name + " move", () -> done(() -> screen.move(w, a, b)), () -> model.move(w, a, b));
            case 3 -> {
                boolean front = random.nextBoolean();
                both(name + " raise", () -> Answer.number(screen.raise(w, front)), () -> model.raise(w, front));
            }
            case 4 -> both(name + " plot", () -> Answer.number(screen.plot(w, a, b, colour)),
                    () -> model.plot(w, a, b, colour));
            case 5 -> {
                int extent = random.nextBoolean() ? mostly(0, 1023) : among(0, 9) * 32 + among(0, 9);
                both(name + " fill", () -> screen.fill(w, a, b, extent, colour),
                        () -> model.fill(w, a, b, extent, colour));
            }
            case 6 -> both(name + " pen", () -> done(() -> screen.pen(w, a, b)), () -> model.pen(w, a, b));
            case 7 -> both(name + " line", () -> screen.line(w, a, b, colour), () -> model.line(w, a, b, colour));
            case 8 -> {
                int u = random.nextBoolean() ? among(-3, 3) : a;
                int v = random.nextBoolean() ? among(-3, 3) : b;
                both(name + " scroll", () -> done(() -> screen.scroll(w, u, v)), () -> model.scroll(w, u, v));
            }
            case 9 -> both(name + " flush", screen::flush, model::flush);
            default -> onePlain(name, which);
        }
    }

    private void onePlain(String name, int which) {
        int w = window();
        int x = mostly(0, 23);
        int y = mostly(0, 15);
        switch (which) {
            case 10 -> both(name + " screen", () -> screen.screen(x, y), () -> model.screen(x, y));
            case 11 -> both(name + " picture", () -> screen.picture(w, x / 2, y / 2),
                    () -> model.picture(w, x / 2, y / 2));
            case 12 -> both(name + " at", () -> screen.at(x, y), () -> model.at(x, y));
            case 13 -> both(name + " visible", () -> screen.visible(w), () -> model.visible(w));
            case 14 -> both(name + " click", () -> screen.click(x, y), () -> model.click(x, y));
            case 15 -> {
                int code = random.nextInt();
                both(name + " key", () -> Answer.number(screen.key(code)), () -> model.key(code));
            }
            case 16 -> both(name + " next", screen::next, model::next);
            case 17 -> {
                int what = mostly(0, 2);
                both(name + " event", () -> screen.event(what), () -> model.event(what));
            }
            default -> {
                int k = mostly(0, 8);
                both(name + " figure " + k, () -> screen.figure(k), () -> model.figure(k));
            }
        }
    }

    private void both(String name, IntSupplier got, IntSupplier want) {
        checks.same(name, Answer.of(got), Answer.of(want));
    }

    private static int done(Runnable call) {
        call.run();
        return 0;
    }

    /** Pictures as maps of their own and damage as sets of cells: nothing here is built as the program is. */
    private static final class Model {
        private final int[][] colours = new int[24][16];
        private final ArrayList<Integer> order = new ArrayList<>();
        private final ArrayList<int[]> events = new ArrayList<>();
        private final ArrayList<boolean[][]> damage = new ArrayList<>();
        private final int[][][] pictures = new int[8][][];
        private final int[][] places = new int[8][];
        private final int[][] pens = new int[8][];
        private final int[] starts = new int[8];
        private int[] taken = null;
        private int focus = -1;
        private int dropped = 0;
        private int painted = 0;

        int open(int x, int y, int width, int height) {
            argument(Math.abs((long) x) <= 50 && Math.abs((long) y) <= 50);
            argument(1 <= width && width <= 24 && 1 <= height && height <= 16);
            int window = 0;
            while (window < 8 && pictures[window] != null) {
                window++;
            }
            int start = 0;
            while (start <= 400 && !stretchIsFree(start, width * height)) {
                start++;
            }
            if (window == 8 || start > 400) {
                throw new IllegalStateException();
            }
            pictures[window] = new int[width][height];
            places[window] = new int[] {x, y};
            pens[window] = new int[] {0, 0};
            starts[window] = start;
            order.add(0, window);
            hurtFrame(window);
            focus = window;
            return window;
        }

        int close(int window) {
            element(window);
            hurtFrame(window);
            pictures[window] = null;
            order.remove(Integer.valueOf(window));
            events.removeIf(event -> event[1] == window);
            if (focus == window) {
                focus = order.isEmpty() ? -1 : order.get(0);
            }
            return 0;
        }

        int move(int window, int x, int y) {
            element(window);
            argument(Math.abs((long) x) <= 50 && Math.abs((long) y) <= 50);
            hurtFrame(window);
            places[window] = new int[] {x, y};
            hurtFrame(window);
            return 0;
        }

        int raise(int window, boolean front) {
            element(window);
            ArrayList<Integer> before = new ArrayList<>(order);
            order.remove(Integer.valueOf(window));
            order.add(front ? 0 : order.size(), window);
            if (order.equals(before)) {
                return 0;
            }
            hurtFrame(window);
            return 1;
        }

        int plot(int window, int u, int v, int colour) {
            element(window);
            argument(0 <= colour && colour <= 255);
            if (!has(window, u, v)) {
                return 0;
            }
            ArrayList<int[]> cells = new ArrayList<>();
            cells.add(new int[] {u, v});
            return paint(window, cells, colour);
        }

        int fill(int window, int u, int v, int extent, int colour) {
            element(window);
            argument(Math.abs((long) u) <= 50 && Math.abs((long) v) <= 50);
            argument(0 <= extent && extent <= 1023 && 0 <= colour && colour <= 255);
            ArrayList<int[]> cells = new ArrayList<>();
            for (int i = u; i < u + extent % 32; i++) {
                for (int j = v; j < v + extent / 32; j++) {
                    cells.add(new int[] {i, j});
                }
            }
            return paint(window, cells, colour);
        }

        int pen(int window, int u, int v) {
            element(window);
            argument(Math.abs((long) u) <= 50 && Math.abs((long) v) <= 50);
            pens[window] = new int[] {u, v};
            return 0;
        }

        int line(int window, int u, int v, int colour) {
            element(window);
            argument(Math.abs((long) u) <= 50 && Math.abs((long) v) <= 50);
            argument(0 <= colour && colour <= 255);
            int[] from = pens[window];
            int a = u - from[0];
            int b = v - from[1];
            int n = Math.max(Math.abs(a), Math.abs(b));
            ArrayList<int[]> cells = new ArrayList<>();
            for (int k = 0; k <= n; k++) {
                cells.add(new int[] {from[0] + nearest(k * a, n), from[1] + nearest(k * b, n)});
            }
            pens[window] = new int[] {u, v};
            return paint(window, cells, colour);
        }

        int scroll(int window, int u, int v) {
            element(window);
            argument(Math.abs((long) u) <= 50 && Math.abs((long) v) <= 50);
            int[][] old = pictures[window];
            int[][] scrolled = new int[old.length][old[0].length];
            for (int i = 0; i < old.length; i++) {
                for (int j = 0; j < old[0].length; j++) {
                    scrolled[i][j] = has(window, i + u, j + v) ? old[i + u][j + v] : 0;
                }
            }
            pictures[window] = scrolled;
            hurtFrame(window);
            return 0;
        }

        int flush() {
            int count = 0;
            for (int x = 0; x < 24; x++) {
                for (int y = 0; y < 16; y++) {
                    int column = x;
                    int row = y;
                    if (damage.stream().anyMatch(cells -> cells[column][row])) {
                        int window = owner(x, y);
                        colours[x][y] = window == -1 ? 0
                                : pictures[window][x - places[window][0]][y - places[window][1]];
                        count++;
                    }
                }
            }
            damage.clear();
            painted += count;
            return count;
        }

        int screen(int x, int y) {
            bounds(0 <= x && x <= 23 && 0 <= y && y <= 15);
            return colours[x][y];
        }

        int picture(int window, int u, int v) {
            element(window);
            bounds(has(window, u, v));
            return pictures[window][u][v];
        }

        int at(int x, int y) {
            bounds(0 <= x && x <= 23 && 0 <= y && y <= 15);
            return owner(x, y);
        }

        int visible(int window) {
            element(window);
            int count = 0;
            for (int cell = 0; cell < 24 * 16; cell++) {
                count += owner(cell % 24, cell / 24) == window ? 1 : 0;
            }
            return count;
        }

        int click(int x, int y) {
            int window = at(x, y);
            if (window == -1) {
                if (focus != -1) {
                    tell(PaneScreen.LOST, focus, 0, 0);
                    focus = -1;
                }
                return -1;
            }
            if (focus != window) {
                if (focus != -1) {
                    tell(PaneScreen.LOST, focus, 0, 0);
                }
                focus = window;
                tell(PaneScreen.GOT, window, 0, 0);
            }
            raise(window, true);
            tell(PaneScreen.CLICK, window, x - places[window][0], y - places[window][1]);
            return window;
        }

        int key(int code) {
            if (focus == -1) {
                return 0;
            }
            tell(PaneScreen.KEY, focus, code, 0);
            return 1;
        }

        int next() {
            if (events.isEmpty()) {
                throw new NoSuchElementException();
            }
            taken = events.remove(0);
            return taken[0];
        }

        int event(int what) {
            if (taken == null) {
                throw new IllegalStateException();
            }
            argument(0 <= what && what <= 2);
            return taken[what + 1];
        }

        int figure(int k) {
            argument(0 <= k && k <= 8);
            return switch (k) {
                case 0 -> focus;
                case 1 -> order.size();
                case 2 -> order.isEmpty() ? -1 : order.get(0);
                case 3 -> freeCells();
                case 4 -> longestFree();
                case 5 -> damage.size();
                case 6 -> events.size();
                case 7 -> dropped;
                default -> painted;
            };
        }

        private int freeCells() {
            int free = 0;
            for (int cell = 0; cell < 400; cell++) {
                free += stretchIsFree(cell, 1) ? 1 : 0;
            }
            return free;
        }

        private int longestFree() {
            int size = 400;
            while (size > 0 && !anyStretchIsFree(size)) {
                size--;
            }
            return size;
        }

        private boolean anyStretchIsFree(int size) {
            for (int start = 0; start <= 400 - size; start++) {
                if (stretchIsFree(start, size)) {
                    return true;
                }
            }
            return false;
        }

        private boolean stretchIsFree(int start, int size) {
            if (start + size > 400) {
                return false;
            }
            for (int window : order) {
                int end = starts[window] + pictures[window].length * pictures[window][0].length;
                if (start < end && starts[window] < start + size) {
                    return false;
                }
            }
            return true;
        }

        private static int nearest(int times, int n) {
            return n == 0 ? 0 : (int) Math.floor((double) times / n + 0.5);
        }

        private boolean has(int window, int u, int v) {
            return 0 <= u && u < pictures[window].length && 0 <= v && v < pictures[window][0].length;
        }

        private int owner(int x, int y) {
            for (int window : order) {
                if (has(window, x - places[window][0], y - places[window][1])) {
                    return window;
                }
            }
            return -1;
        }

        private int paint(int window, ArrayList<int[]> cells, int colour) {
            cells.removeIf(cell -> !has(window, cell[0], cell[1]));
            if (cells.isEmpty()) {
                return 0;
            }
            int left = cells.stream().mapToInt(cell -> cell[0]).min().getAsInt();
            int right = cells.stream().mapToInt(cell -> cell[0]).max().getAsInt();
            int top = cells.stream().mapToInt(cell -> cell[1]).min().getAsInt();
            int bottom = cells.stream().mapToInt(cell -> cell[1]).max().getAsInt();
            cells.forEach(cell -> pictures[window][cell[0]][cell[1]] = colour);
            hurt(places[window][0] + left, places[window][1] + top, places[window][0] + right,
                    places[window][1] + bottom);
            return cells.size();
        }

        private void hurtFrame(int window) {
            int[] place = places[window];
            hurt(place[0], place[1], place[0] + pictures[window].length - 1,
                    place[1] + pictures[window][0].length - 1);
        }

        private void hurt(int left, int top, int right, int bottom) {
            boolean[][] cells = new boolean[24][16];
            boolean any = false;
            for (int x = 0; x < 24; x++) {
                for (int y = 0; y < 16; y++) {
                    cells[x][y] = left <= x && x <= right && top <= y && y <= bottom;
                    any |= cells[x][y];
                }
            }
            if (any) {
                damage.add(cells);
            }
            if (damage.size() == 7) {
                joinDamage();
            }
        }

        private void joinDamage() {
            int[] edge = {24, 16, -1, -1};
            for (boolean[][] cells : damage) {
                for (int x = 0; x < 24; x++) {
                    for (int y = 0; y < 16; y++) {
                        if (cells[x][y]) {
                            edge = new int[] {Math.min(edge[0], x), Math.min(edge[1], y), Math.max(edge[2], x),
                                Math.max(edge[3], y)};
                        }
                    }
                }
            }
            damage.clear();
            hurt(edge[0], edge[1], edge[2], edge[3]);
        }

        private void tell(int kind, int window, int one, int two) {
            if (events.size() == 12) {
                dropped++;
            } else {
                events.add(new int[] {kind, window, one, two});
            }
        }

        private void element(int window) {
            if (window < 0 || window > 7 || pictures[window] == null) {
                throw new NoSuchElementException();
            }
        }

        private static void argument(boolean allowed) {
            if (!allowed) {
                throw new IllegalArgumentException();
            }
        }

        private static void bounds(boolean allowed) {
            if (!allowed) {
                throw new IndexOutOfBoundsException();
            }
        }
    }
}
