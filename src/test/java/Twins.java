import java.util.List;
import java.util.function.Consumer;
import java.util.function.Function;
import java.util.function.Supplier;

/** Holds an object on which a call was made against one in the same state on which it was not. */
final class Twins {
    private final Checks checks;
    private final List<Later> ways = Later.all();

    Twins(Checks checks) {
        this.checks = checks;
    }

    /** The call throws what is due, and no later answer tells that it was made. */
    void refused(String what, Class<?> want, Supplier<PaneScreen> state, Consumer<PaneScreen> call) {
        unchanged(what, want.getName(), state, p -> Answer.ofRun(() -> call.accept(p)));
    }

    /** The call answers what is due, and no later answer tells that it was made. */
    void unchanged(String what, String want, Supplier<PaneScreen> state, Function<PaneScreen, String> call) {
        for (Later later : ways) {
            PaneScreen with = state.get();
            PaneScreen without = state.get();
            checks.same(what, call.apply(with), want);
            boolean alike = later.way().apply(with).equals(later.way().apply(without));
            checks.same(what + " changes nothing that is seen by: " + later.name(), alike, true);
        }
    }
}
