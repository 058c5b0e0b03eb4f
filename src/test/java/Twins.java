import java.util.ArrayList;
import java.util.List;
import java.util.function.Supplier;
import java.util.function.ToLongFunction;

/**
 * Two objects brought to one state in one way. A call is made on the first alone; then all that can be seen of
 * both must be alike, if the call is one that changes nothing.
 */
final class Twins {
    static final int BAD = 0, NO = 1, FULL = 2, NOWHERE = -1;

    private final Check check;
    private final CoalWood asked;
    private final CoalWood left;

    Twins(Check check, Supplier<CoalWood> made) {
        this.check = check;
        asked = made.get();
        left = made.get();
    }

    /** The call has that answer and counts once, where told, in STATUS. */
    Twins answers(String call, ToLongFunction<CoalWood> ask, long want, int where) {
        int[] before = status(asked);
        check.due(call, ask.applyAsLong(asked), want);
        int[] then = status(asked);
        for (int what = 0; what < 3; what++) {
            check.due(call + ", STATUS " + what, then[what], before[what] + (what == where ? 1 : 0));
        }
        return this;
    }

    /** The call counts nowhere in STATUS; its answer is looked at elsewhere. */
    long allowed(String call, ToLongFunction<CoalWood> ask) {
        int[] before = status(asked);
        long answer = ask.applyAsLong(asked);
        int[] then = status(asked);
        for (int what = 0; what < 3; what++) {
            check.due(call + ", STATUS " + what, then[what], before[what]);
        }
        return answer;
    }

    /** Neither can be used behind this: looking at all there is goes through both. */
    void areAlike(String behind) {
        List<Long> one = all(asked);
        List<Long> other = all(left);
        check.that("changed behind " + behind + ": " + one + ", was " + other, one.equals(other));
    }

    /** All but STATUS: the digest, what may be undone, what THE TEXT tells, both images with what may be undone. */
    private static List<Long> all(CoalWood x) {
        List<Long> all = new ArrayList<>();
        all.add(x.digest());
        undoAll(x, all);
        all.add((long) x.read());
        all.add(x.digest());
        for (int i = 0; i < 2; i++) {
            all.add((long) x.from(i));
            all.add(x.digest());
            undoAll(x, all);
        }
        return all;
    }

    private static void undoAll(CoalWood x, List<Long> all) {
        while (x.count(7) > 0) {
            all.add((long) x.undo());
            all.add(x.digest());
        }
        all.add((long) x.undo());
    }

    private static int[] status(CoalWood x) {
        return new int[] {x.status(0), x.status(1), x.status(2)};
    }
}
