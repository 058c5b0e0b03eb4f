import java.util.ArrayList;
import java.util.Arrays;
import java.util.List;
import java.util.function.Supplier;
import java.util.function.ToLongFunction;

/**
 * The bounds of every number of every call: the last that is allowed and the first that is not, on both sides, the
 * least and the greatest int, each with each other; with nothing there, with some, with all full. A refused call
 * changes nothing but STATUS.
 */
public final class BoundsTest {
    private static final Check CHECK = new Check("BoundsTest");
    private static final int MAX = Integer.MAX_VALUE;
    private static final int MIN = Integer.MIN_VALUE;

    private interface Ask {
        long of(CoalWood x, int a, int b, int c);
    }

    /** A call, what it answers to a wrong number, and the least and the greatest of its numbers. */
    private record Call(String name, Ask ask, long wrong, int... bounds) {
        int numbers() {
            return bounds.length / 2;
        }

        int least(int k) {
            return bounds[2 * k];
        }

        int most(int k) {
            return bounds[2 * k + 1];
        }
    }

    public static void main(String[] args) {
        tryAll("new", CoalWood::new, 0, false);
        tryAll("middle", Pits::middle, 6, false);
        tryAll("full", Pits::brimful, 8, true);
        everyLump();
        clashOfOne();
        CHECK.end();
    }

    private static void tryAll(String state, Supplier<CoalWood> made, int lumps, boolean full) {
        CHECK.due(state + ": LUMPS", made.get().count(0), lumps);
        for (Call call : changing()) {
            tryCall(state, made, call, full);
        }
        for (Call call : asking(lumps - 1)) {
            tryCall(state, made, call, false);
        }
    }

    /** Calls that are FULL in a full pit. */
    private static List<Call> changing() {
        List<Call> calls = new ArrayList<>();
        for (int size = 1; size <= 6; size++) {
            int n = size;
            calls.add(new Call("lump(., ., " + n + ")", (x, a, b, c) -> x.lump(a, b, n), -2, 0, 5, 0, 12 - n));
        }
        for (int start = 0; start <= 11; start++) {
            int l = start;
            int most = Math.min(6, 12 - l);
            calls.add(new Call("lump(., " + l + ", .)", (x, a, b, c) -> x.lump(a, l, b), -2, 0, 5, 1, most));
        }
        calls.add(new Call("type", (x, a, b, c) -> x.type(a), -2, 0, 127));
        calls.add(new Call("evening", (x, a, b, c) -> x.evening(a), -2, 0, 5));
        calls.add(new Call("seen", (x, a, b, c) -> x.seen(a, b, c), -2, 1, 6, 0, 12, -1, 5));
        calls.add(new Call("glimpse", (x, a, b, c) -> x.glimpse(a, b, c), -2, 0, 11, 0, 8, 0, 1));
        return calls;
    }

    private static List<Call> asking(int last) {
        List<Call> calls = new ArrayList<>();
        calls.add(new Call("layer", (x, a, b, c) -> x.layer(a, b), -2, 0, 11, 0, 5));
        calls.add(new Call("price", (x, a, b, c) -> x.price(a, b), -2, 0, 5, 0, 9));
        calls.add(new Call("of", (x, a, b, c) -> x.of(a, b), -2, 0, last, 0, 6));
        calls.add(new Call("shows", (x, a, b, c) -> x.shows(a, b), -2, 0, last, 0, 20));
        calls.add(new Call("clash(., 3, .)", (x, a, b, c) -> x.clash(a, 3, b), -2, 0, last, 0, 20));
        calls.add(new Call("clash(3, ., .)", (x, a, b, c) -> x.clash(3, a, b), -2, 0, last, 0, 20));
        calls.add(new Call("agree", (x, a, b, c) -> x.agree(a), -2, 0, last));
        calls.add(new Call("fewest", (x, a, b, c) -> x.fewest(a), -10, -1, MAX));
        calls.add(new Call("best", (x, a, b, c) -> x.best(a, b), -2, 0, 99, 0, 1));
        calls.add(new Call("cut", (x, a, b, c) -> x.cut(a, b), -10, 1, 6, -2, MAX));
        calls.add(new Call("fits", (x, a, b, c) -> x.fits(a), -10, 0, 1));
        calls.add(new Call("places", (x, a, b, c) -> x.places(a), -2, 0, 11));
        calls.add(new Call("odds", (x, a, b, c) -> x.odds(a, b, c), -2, 0, last, 0, 5, 0, 10));
        calls.add(new Call("drawn", (x, a, b, c) -> x.drawn(a, b), -2, 0, 999999, 0, 60));
        calls.add(new Call("part", (x, a, b, c) -> x.part(a), -2, 0, 1));
        calls.add(new Call("image", (x, a, b, c) -> x.image(a), -2, 0, 1));
        calls.add(new Call("status", (x, a, b, c) -> x.status(a), -1, 0, 2));
        calls.add(new Call("count", (x, a, b, c) -> x.count(a), -2, 0, 8));
        return calls;
    }

    private static void tryCall(String state, Supplier<CoalWood> made, Call call, boolean full) {
        for (int a : edges(call, 0)) {
            for (int b : edges(call, 1)) {
                for (int c : edges(call, 2)) {
                    tryNumbers(state, made, call, full, new int[] {a, b, c});
                }
            }
        }
    }

    /** One number alone, if the call has no such one. */
    private static int[] edges(Call call, int k) {
        if (k >= call.numbers()) {
            return new int[] {0};
        }
        int least = call.least(k);
        int most = call.most(k);
        return new int[] {MIN, least - 1, least, most, most == MAX ? MIN : most + 1, MAX};
    }

    private static void tryNumbers(String state, Supplier<CoalWood> made, Call call, boolean full, int[] numbers) {
        boolean right = true;
        for (int k = 0; k < call.numbers(); k++) {
            right &= call.least(k) <= numbers[k] && numbers[k] <= call.most(k);
        }
        String name = state + ": " + call.name + " of " + Arrays.toString(numbers);
        ToLongFunction<CoalWood> ask = x -> call.ask.of(x, numbers[0], numbers[1], numbers[2]);
        Twins twins = new Twins(CHECK, made);
        if (!right) {
            twins.answers(name, ask, call.wrong, Twins.BAD).areAlike(name);
        } else if (full) {
            twins.answers(name, ask, CoalWood.FULL, Twins.FULL).areAlike(name);
        } else {
            long answer = twins.allowed(name, ask);
            CHECK.that(name + " answered " + answer, answer >= 0 || answer == CoalWood.NONE || answer == -5);
        }
    }

    /** burn and from: a number that is right may be refused as NO, so that they stand apart. */
    private static void everyLump() {
        int[] numbers = {MIN, -2, -1, 0, 1, 5, 6, 7, 8, 9, MAX};
        for (int n : numbers) {
            burn("new", CoalWood::new, n, 0, 0);
            burn("middle", Pits::middle, n, 6, 1 << 5 | 1 << 1);
            burn("full", Pits::brimful, n, 8, 1 << 2 | 1 << 4 | 1 << 7 | 1);
            from("new", CoalWood::new, n, 0);
            from("one kept", BoundsTest::oneKept, n, 2);
            from("both kept", Pits::brimful, n, 3);
        }
    }

    private static void burn(String state, Supplier<CoalWood> made, int lump, int lumps, int burnt) {
        String name = state + ": burn(" + lump + ")";
        Twins twins = new Twins(CHECK, made);
        if (lump < 0 || lump >= lumps) {
            twins.answers(name, x -> x.burn(lump), CoalWood.BAD, Twins.BAD).areAlike(name);
        } else if ((burnt >> lump & 1) == 1) {
            twins.answers(name, x -> x.burn(lump), CoalWood.NO, Twins.NO).areAlike(name);
        } else {
            CHECK.that(name + " is paid", twins.allowed(name, x -> x.burn(lump)) >= 0);
        }
    }

    private static CoalWood oneKept() {
        CoalWood x = Pits.kinds();
        x.image(1);
        x.burn(2);
        return x;
    }

    private static void from(String state, Supplier<CoalWood> made, int image, int kept) {
        String name = state + ": from(" + image + ")";
        Twins twins = new Twins(CHECK, made);
        if (image < 0 || image > 1) {
            twins.answers(name, x -> x.from(image), CoalWood.BAD, Twins.BAD).areAlike(name);
        } else if ((kept >> image & 1) == 0) {
            twins.answers(name, x -> x.from(image), CoalWood.NO, Twins.NO).areAlike(name);
        } else {
            CHECK.due(name, twins.allowed(name, x -> x.from(image)), 1);
        }
    }

    /** "CLASH of two LUMPS i, j (unlike ones)" */
    private static void clashOfOne() {
        for (int lump = -1; lump <= 8; lump++) {
            int i = lump;
            String name = "clash of " + i + " and itself";
            new Twins(CHECK, Pits::brimful).answers(name, x -> x.clash(i, i, 0), -2, Twins.BAD).areAlike(name);
        }
    }
}
