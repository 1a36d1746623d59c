import java.util.List;
import java.util.function.Predicate;
import java.util.function.ToIntFunction;

/** Calls that are refused, "changing nothing": all other calls answer as they did before. */
final class Refusals {
    private final Answers answers;

    Refusals(Answers answers) {
        this.answers = answers;
    }

    void falseInAll(String what, Predicate<CallFilter> call) {
        for (Scene scene : Scene.values()) {
            falseIn(scene, what, call);
        }
    }

    void falseIn(Scene scene, String what, Predicate<CallFilter> call) {
        noneIn(scene, what, x -> call.test(x) ? 1 : 0, 0);
    }

    void noneInAll(String what, ToIntFunction<CallFilter> call) {
        for (Scene scene : Scene.values()) {
            noneIn(scene, what, call);
        }
    }

    void noneIn(Scene scene, String what, ToIntFunction<CallFilter> call) {
        noneIn(scene, what, call, CallFilter.NONE);
    }

    private void noneIn(Scene scene, String what, ToIntFunction<CallFilter> call, int refusal) {
        CallFilter x = scene.object();
        List<String> before = Portrait.atRest(x);
        answers.due(scene + ": " + what, refusal, call.applyAsInt(x));
        answers.due(scene + ": after " + what, before, Portrait.atRest(x));
        // A twin that was never asked shows what comes to light only when the object is used further.
        answers.due(scene + ": use after " + what, Portrait.whole(scene.object()), Portrait.whole(x));
    }
}
