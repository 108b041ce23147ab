import java.util.ArrayList;
import java.util.List;
import java.util.function.Consumer;
import java.util.function.Supplier;
import java.util.function.ToLongFunction;

/**
 * Two objects made by the same calls: one has the call that is asked about, the other has not. Then all that can be
 * asked is asked of both, what can be undone and the images among it, so that the call is seen to leave it.
 */
final class Twins {
    private static final int[] REFUSALS = {-1, -2, -3, -5, -6};

    private Twins() {
    }

    /** A call that is refused: its number is told, status() and one count tell it, all else is as it was. */
    static void refused(String sentence, String call, int by, Supplier<LostLanes> making, ToLongFunction<LostLanes> run) {
        refused(sentence, call, by, making, run, x -> { });
    }

    /** The same, but that it does what the other one does by other calls (an empty tape, another fault). */
    static void refused(String sentence, String call, int by, Supplier<LostLanes> making, ToLongFunction<LostLanes> run,
            Consumer<LostLanes> asWell) {
        LostLanes one = making.get();
        LostLanes other = making.get();
        asWell.accept(other);
        Due.due(sentence, call, run.applyAsLong(one), by);
        Due.due(sentence, "status() behind " + call, one.status(), by);
        for (int i = 0; i < REFUSALS.length; i++) {
            int more = REFUSALS[i] == by ? 1 : 0;
            Due.due(sentence, "count(" + (7 + i) + ") behind " + call, one.count(7 + i), other.count(7 + i) + more);
        }
        alike(sentence, call, asked(one), asked(other));
    }

    /** A call that only tells something: status() and the counts of refusals stay, too. */
    static void untouched(String sentence, String call, long told, Supplier<LostLanes> making,
            ToLongFunction<LostLanes> run) {
        LostLanes one = making.get();
        LostLanes other = making.get();
        Due.due(sentence, call, run.applyAsLong(one), told);
        Due.due(sentence, "status() behind " + call, one.status(), other.status());
        for (int what = 7; what < 12; what++) {
            Due.due(sentence, "count(" + what + ") behind " + call, one.count(what), other.count(what));
        }
        alike(sentence, call, asked(one), asked(other));
    }

    private static void alike(String sentence, String call, List<String> got, List<String> want) {
        String difference = got.size() == want.size() ? "" : got.size() + " answers, not " + want.size();
        for (int i = 0; i < got.size() && difference.isEmpty(); i++) {
            if (!got.get(i).equals(want.get(i))) {
                difference = got.get(i) + ", not " + want.get(i);
            }
        }
        Due.due(sentence, call + " leaves all else (" + difference + "): differences", difference.isEmpty() ? 0 : 1, 0);
    }

    private static List<String> asked(LostLanes x) {
        List<String> told = new ArrayList<>();
        told.add("fault() " + x.fault());
        told.add("stopped() " + x.stopped());
        told.add("gravel() " + x.gravel());
        counts(x, told, "");
        for (int lane = 0; lane < 10; lane++) {
            for (int what = 0; what < 4; what++) {
                told.add("at(" + lane + ", " + what + ") " + x.at(lane, what));
            }
            told.add("drawn(" + lane + ", 1) " + x.drawn(lane, 1));
        }
        for (int child = 0; child < 4; child++) {
            told.add("of(" + child + ", 0) " + x.of(child, 0));
            told.add("of(" + child + ", 4) " + x.of(child, 4));
            told.add("drawn(" + child + ", 0) " + x.drawn(child, 0));
        }
        for (int law = -1; law < 6; law++) {
            told.add("compare(" + law + ", 0) " + x.compare(law, 0));
        }
        told.add("asks(0, 1, 0) " + x.asks(0, 1, 0));
        standing(x, told, "");
        undone(x, told);
        told.add("law() of the tape " + x.law());
        told.add("fault() of the tape " + x.fault());
        for (int k = 0; k < 2; k++) {
            told.add("back(" + k + ") " + x.back(k));
            counts(x, told, " behind back(" + k + ")");
            standing(x, told, " behind back(" + k + ")");
        }
        return told;
    }

    /** Counts of refusals aside, which the callers look at. */
    private static void counts(LostLanes x, List<String> told, String when) {
        for (int what = 0; what < 16; what++) {
            if (what < 7 || what > 11) {
                told.add("count(" + what + ")" + when + " " + x.count(what));
            }
        }
    }

    /** What steps change, and the names heard. */
    private static void standing(LostLanes x, List<String> told, String when) {
        for (int child = 0; child < 4; child++) {
            told.add("of(" + child + ", 1)" + when + " " + x.of(child, 1));
            told.add("of(" + child + ", 2)" + when + " " + x.of(child, 2));
        }
        for (int lane = 0; lane < 10; lane++) {
            told.add("at(" + lane + ", 4)" + when + " " + x.at(lane, 4));
        }
        told.add("count(13)" + when + " " + x.count(13));
        told.add("gone(0)" + when + " " + x.gone(0));
        told.add("gone(1)" + when + " " + x.gone(1));
        told.add("gone(2)" + when + " " + x.gone(2));
    }

    private static void undone(LostLanes x, List<String> told) {
        int steps = x.count(5);
        for (int i = 0; i <= steps; i++) {
            String when = " behind undo() " + i;
            told.add("undo() " + x.undo() + when);
            if (i < 5) {
                standing(x, told, when);
            }
        }
    }
}
