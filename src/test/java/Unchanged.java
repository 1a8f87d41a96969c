import java.util.ArrayList;
import java.util.Arrays;
import java.util.List;

/**
 * Calls that must change nothing: an object on which one was made must answer all that follows as
 * an object of the same scene on which it was not.
 */
final class Unchanged {
    interface Scene {
        PageMarriages make();
    }

    interface Call {
        int on(PageMarriages m);
    }

    private Unchanged() {
    }

    /** Each of these calls answers. */
    static void by(Scene scene, Call... calls) {
        check(scene, null, calls);
    }

    /** Each of these calls throws what is due. */
    static void refused(Scene scene, Class<? extends RuntimeException> due, Call... calls) {
        check(scene, due, calls);
    }

    static void outOfBounds(Scene scene, Call... calls) {
        refused(scene, IndexOutOfBoundsException.class, calls);
    }

    static void illegalArgument(Scene scene, Call... calls) {
        refused(scene, IllegalArgumentException.class, calls);
    }

    static void illegalState(Scene scene, Call... calls) {
        refused(scene, IllegalStateException.class, calls);
    }

    private static void check(Scene scene, Class<? extends RuntimeException> due, Call[] calls) {
        int remembered = remembered(scene.make());
        List<int[]> without = future(scene, remembered);
        for (int i = 0; i < calls.length; i++) {
            Call call = calls[i];
            List<int[]> with = future(() -> {
                PageMarriages m = scene.make();
                if (due == null) {
                    call.on(m);
                } else {
                    Tally.throwsA(due, () -> call.on(m));
                }
                return m;
            }, remembered);
            for (int view = 0; view < without.size(); view++) {
                if (!Arrays.equals(without.get(view), with.get(view))) {
                    throw new AssertionError("the call " + i + " changes the view " + view);
                }
            }
        }
    }

    private static int remembered(PageMarriages m) {
        int count = 0;
        while (answer(m, x -> x.undo())[0] == 0) {
            count++;
        }
        return count;
    }

    /** Whether it throws, and the answer. */
    private static int[] answer(PageMarriages m, Call call) {
        try {
            return new int[] {0, call.on(m)};
        } catch (IllegalStateException e) {
            return new int[] {1, 0};
        }
    }

    /** All that can be learned later, each with an object of its own. */
    private static List<int[]> future(Scene scene, int remembered) {
        List<int[]> views = new ArrayList<>();
        views.add(Look.at(scene.make()));
        PageMarriages text = scene.make();
        views.add(new int[] {text.errorPosition(), text.clearText()});
        for (int depth = 1; depth <= remembered + 1; depth++) {
            PageMarriages m = scene.make();
            for (int i = 1; i < depth; i++) {
                m.undo();
            }
            views.add(answer(m, x -> x.undo()));
            views.add(Look.at(m));
        }
        view(views, scene.make(), m -> m.load());
        view(views, scene.make(), m -> m.restore(0));
        view(views, scene.make(), m -> m.restore(1));
        return views;
    }

    private static void view(List<int[]> views, PageMarriages m, Call call) {
        views.add(answer(m, call));
        views.add(Look.at(m));
    }
}
