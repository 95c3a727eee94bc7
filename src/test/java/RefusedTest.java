import java.util.NoSuchElementException;

/** Calls refused for the state they meet, and which exception comes first if there are several reasons. */
public final class RefusedTest {
    private static final Class<?> ARGUMENT = IllegalArgumentException.class;
    private static final Class<?> STATE = IllegalStateException.class;
    private static final Class<?> ELEMENT = NoSuchElementException.class;

    private static final Checks checks = new Checks();
    private static final Twins twins = new Twins(checks);

    public static void main(String[] args) {
        windowIsNotOpen();
        windowComesFirst();
        allAreOpen();
        noSuchFreeStretch();
        bothReasonsOfOpen();
        argumentBeforeStateInOpen();
        noEventStands();
        noEventWasTaken();
        stateBeforeArgumentInEvent();
        checks.finish();
    }

    private static void windowIsNotOpen() {
        for (WindowCall call : WindowCall.values()) {
            checks.about("Terms, no such element: it is not open: " + call);
            for (int window = 0; window < 8; window++) {
                int w = window;
                twins.refused("none was opened, " + w, ELEMENT, PaneScreen::new, p -> call.on(p, w));
            }
            twins.refused("closed again", ELEMENT, States::busy, p -> call.on(p, 1));
            twins.refused("the least that was never open", ELEMENT, States::busy, p -> call.on(p, 5));
            twins.refused("the last that was never open", ELEMENT, States::busy, p -> call.on(p, 7));
            PaneScreen p = States.busy();
            p.open(0, 0, 3, 3);
            checks.allowed("opened again", () -> call.on(p, 1));
        }
    }

    private static void windowComesFirst() {
        for (WindowCall call : WindowCall.values()) {
            checks.about("Terms, of several reasons the exception named first: " + call);
            for (int window : new int[] {-1, 1, 8, Integer.MIN_VALUE, Integer.MAX_VALUE}) {
                twins.refused("window " + window, ELEMENT, States::busy, p -> call.withWrongArguments(p, window));
            }
        }
    }

    private static void allAreOpen() {
        checks.about("Promise 2, illegal state: all are open");
        PaneScreen p = new PaneScreen();
        for (int window = 0; window < 8; window++) {
            checks.same("open", p.open(0, 0, 1, 1), window);
        }
        checks.refused("the ninth", STATE, () -> p.open(0, 0, 1, 1));
        p.close(6);
        checks.same("seven are open again", p.open(0, 0, 1, 1), 6);
        twins.refused("all are open, the store has room", STATE, States::allOpen, q -> q.open(0, 0, 1, 1));
    }

    private static void noSuchFreeStretch() {
        checks.about("Promise 2, illegal state: the store has no such free stretch");
        twins.refused("nothing is free", STATE, States::storeFull, p -> p.open(0, 0, 1, 1));
        twins.refused("100 of stretches of 99", STATE, States::scattered, p -> p.open(0, 0, 10, 10));
        checks.same("99 of stretches of 99", States.scattered().open(0, 0, 11, 9), 0);
        PaneScreen p = new PaneScreen();
        p.open(0, 0, 24, 15);
        checks.refused("41 and more of 40", STATE, () -> p.open(0, 0, 21, 2));
        checks.same("40 of 40", p.open(0, 0, 20, 2), 1);
        checks.refused("1 of 0", STATE, () -> p.open(0, 0, 1, 1));
        p.close(0);
        checks.same("after one was closed", p.open(0, 0, 1, 1), 0);
    }

    private static void bothReasonsOfOpen() {
        checks.about("Promise 2, illegal state: all are open, and the store has no such free stretch");
        twins.refused("both", STATE, States::allOpenAndStoreFull, p -> p.open(0, 0, 1, 1));
        PaneScreen p = States.allOpenAndStoreFull();
        p.close(3);
        checks.refused("one is free, but its 50 cells are too few", STATE, () -> p.open(0, 0, 17, 3));
        checks.same("one is free with its 50 cells", p.open(0, 0, 10, 5), 3);
    }

    private static void argumentBeforeStateInOpen() {
        checks.about("Promise 2, of several reasons: illegal argument, then illegal state");
        twins.refused("all open, x", ARGUMENT, States::allOpen, p -> p.open(51, 0, 1, 1));
        twins.refused("all open, y", ARGUMENT, States::allOpen, p -> p.open(0, -51, 1, 1));
        twins.refused("all open, width", ARGUMENT, States::allOpen, p -> p.open(0, 0, 0, 1));
        twins.refused("all open, height", ARGUMENT, States::allOpen, p -> p.open(0, 0, 1, 17));
        twins.refused("store full, width", ARGUMENT, States::storeFull, p -> p.open(0, 0, 25, 1));
        twins.refused("store full, height", ARGUMENT, States::storeFull, p -> p.open(0, 0, 1, 0));
    }

    private static PaneScreen allEventsTaken() {
        PaneScreen p = States.busy();
        for (int k = 0; k < 11; k++) {
            p.next();
        }
        return p;
    }

    private static PaneScreen closedWithItsEvents() {
        PaneScreen p = States.twoWindows();
        p.key(1);
        p.key(2);
        p.close(1);
        return p;
    }

    private static void noEventStands() {
        checks.about("Promise 18, no such element: there is none");
        twins.refused("new", ELEMENT, PaneScreen::new, PaneScreen::next);
        twins.refused("all were taken", ELEMENT, RefusedTest::allEventsTaken, PaneScreen::next);
        twins.refused("all were a closed window's", ELEMENT, RefusedTest::closedWithItsEvents, PaneScreen::next);
        PaneScreen p = States.twoWindows();
        p.key(1);
        checks.same("one stands", p.next(), PaneScreen.KEY);
        checks.refused("none stands", ELEMENT, p::next);
        p.key(2);
        checks.same("one stands again", p.next(), PaneScreen.KEY);
    }

    private static PaneScreen eventsStandOnly() {
        PaneScreen p = States.twoWindows();
        p.key(7);
        p.click(0, 0);
        return p;
    }

    private static void noEventWasTaken() {
        checks.about("Promise 19, illegal state: none was taken");
        for (int k = 0; k < 3; k++) {
            int what = k;
            twins.refused("new, " + what, STATE, PaneScreen::new, p -> p.event(what));
            twins.refused("they stand only, " + what, STATE, RefusedTest::eventsStandOnly, p -> p.event(what));
            twins.refused("gone with a window, " + what, STATE, RefusedTest::closedWithItsEvents, p -> p.event(what));
        }
        PaneScreen p = eventsStandOnly();
        p.next();
        checks.same("one was taken", p.event(1), 7);
        PaneScreen q = new PaneScreen();
        checks.refused("next is refused", ELEMENT, q::next);
        checks.refused("and takes none", STATE, () -> q.event(0));
    }

    private static void stateBeforeArgumentInEvent() {
        checks.about("Promise 19, of several reasons: illegal state, then illegal argument");
        for (int what : new int[] {-1, 3, Integer.MIN_VALUE, Integer.MAX_VALUE}) {
            twins.refused("new, " + what, STATE, PaneScreen::new, p -> p.event(what));
            twins.refused("they stand only, " + what, STATE, RefusedTest::eventsStandOnly, p -> p.event(what));
        }
    }
}
