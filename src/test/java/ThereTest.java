import java.util.ArrayList;
import java.util.List;

/** Promises 31 to 36: what there is. */
public final class ThereTest {
    private static final Check CHECK = new Check("ThereTest");
    private static final int MAX = Integer.MAX_VALUE;
    private static final int MIN = Integer.MIN_VALUE;

    private static void due(String call, long got, long want) {
        CHECK.due(call, got, want);
    }

    public static void main(String[] args) {
        part();
        image();
        fromKeepsTextFractionStatus();
        fromUndo();
        status();
        count();
        digest();
        digestTellsApart();
        CHECK.end();
    }

    /** Promise 31. */
    private static void part() {
        CoalWood x = Pits.kinds();
        due("part(0) at first", x.part(0), 0);
        due("part(1) at first", x.part(1), 1);
        x.odds(0, 1, 1);
        due("part(0)", x.part(0), 729);
        due("part(1)", x.part(1), 1000);
        due("part(2)", x.part(2), CoalWood.BAD);
        due("part(-1)", x.part(-1), CoalWood.BAD);
        due("part(max)", x.part(MAX), CoalWood.BAD);
        due("status(0)", x.status(0), 3);
    }

    /** Promises 32 and 33. */
    private static void image() {
        CoalWood x = Pits.full();
        x.clear();
        due("from(0), none kept", x.from(0), CoalWood.NO);
        due("image(0)", x.image(0), 1);
        long full = x.digest();
        x.pit();
        x.layer(3, 3);
        long bare = x.digest();
        due("from(1), none kept", x.from(1), CoalWood.NO);
        due("image(1)", x.image(1), 1);
        for (int k = 0; k < 3; k++) {
            due("from(1)", x.from(1), 1);
            due("bare again", x.digest(), bare);
            x.layer(3, 4);
            x.lump(0, 0, 1);
            x.evening(4);
            x.seen(3, 3, 3);
            x.glimpse(1, 1, 1);
            x.price(1, 7);
            x.burn(0);
            due("from(0)", x.from(0), 1);
            due("full again", x.digest(), full);
            x.undo();
            x.dark();
            x.forget();
        }
        due("image anew", x.image(0), 1);
        long anew = x.digest();
        x.pit();
        x.from(0);
        due("the image is the later one", x.digest(), anew);
        due("image(-1)", x.image(-1), CoalWood.BAD);
        due("image(2)", x.image(2), CoalWood.BAD);
        due("image(max)", x.image(MAX), CoalWood.BAD);
        due("from(-1)", x.from(-1), CoalWood.BAD);
        due("from(2)", x.from(2), CoalWood.BAD);
        due("from(min)", x.from(MIN), CoalWood.BAD);
        due("status(0)", x.status(0), 6);
        due("status(1)", x.status(1), 2);
    }

    private static void fromKeepsTextFractionStatus() {
        CoalWood x = Pits.kinds();
        x.odds(0, 3, 3);
        x.type('a');
        x.burn(9);
        x.image(0);
        x.odds(0, 1, 3);
        x.type('b');
        x.burn(9);
        x.undo();
        x.from(0);
        due("THE FRACTION stays", x.part(1), 1000);
        due("THE TEXT stays", x.count(8), 2);
        due("BAD stays", x.status(0), 2);
        due("NO stays", x.status(1), 1);
        x.image(1);
        x.pit();
        x.from(0);
        due("IMAGES stay: from(1)", x.from(1), 1);
    }

    private static void fromUndo() {
        CoalWood x = Pits.kinds();
        x.burn(0);
        x.burn(3);
        x.image(0);
        x.undo();
        x.undo();
        x.burn(1);
        x.from(0);
        due("may be undone", x.count(7), 2);
        due("undo from an image", x.undo(), 5);
        due("undo from an image again", x.undo(), 0);
        x.from(0);
        due("the image is as it was", x.undo(), 5);
        x.lump(0, 0, 1);
        due("none behind a lump", x.count(7), 0);
        x.from(0);
        due("the image keeps what may be undone", x.count(7), 2);
        due("the image has no such lump", x.count(0), 6);
    }

    /** Promise 34. */
    private static void status() {
        CoalWood x = new CoalWood();
        due("status(3)", x.status(3), -1);
        due("status(-1)", x.status(-1), -1);
        due("status(max)", x.status(MAX), -1);
        due("they count as BAD", x.status(0), 3);
        x.undo();
        x.from(0);
        due("NO", x.status(1), 2);
        for (int k = 0; k < 12; k++) {
            x.evening(0);
        }
        due("FULL", x.status(2), 2);
        x.fits(7);
        x.cut(0, 0);
        x.fewest(-7);
        due("-10 counts as BAD", x.status(0), 6);
        x.read();
        x.fewest(0);
        x.cut(6, 9);
        due("faults, -5 count as none", x.status(0) + x.status(1) + x.status(2), 10);
        x.pit();
        due("pit leaves it", x.status(0), 6);
    }

    /** Promise 35. */
    private static void count() {
        CoalWood x = Pits.full();
        int[] counts = {8, 4 + 16, 4 + 5, 2 + 4, 10, 8, 6, 2, 150};
        for (int what = 0; what < counts.length; what++) {
            due("count(" + what + ")", x.count(what), counts[what]);
        }
        due("count(9)", x.count(9), CoalWood.BAD);
        due("count(-1)", x.count(-1), CoalWood.BAD);
        due("count(max)", x.count(MAX), CoalWood.BAD);
        due("status(0)", x.status(0), 3);
    }

    /** Promise 36: every number written out in its place. */
    private static void digest() {
        List<Long> values = new ArrayList<>();
        add(values, 0, 0, 0, 0, 0, 0, 0, 0, 0);
        add(values, 0, 0, 0, 0, 0, 0, 0, 0, 0, 0, 0, 0);
        add(values, 1, 1, 1, 1, 1, 1);
        add(values, 1, 0, 1);
        due("digest of a new object", new CoalWood().digest(), hash(values));

        CoalWood x = Pits.seam();
        x.lump(3, 2, 4);
        x.lump(5, 6, 2);
        x.burn(1);
        x.evening(4);
        x.evening(2);
        x.evening(5);
        x.seen(2, 7, CoalWood.NONE);
        x.seen(5, 3, 4);
        x.glimpse(9, 8, 0);
        x.glimpse(7, 3, 1);
        x.type('p');
        x.odds(0, 1, 3);
        values.clear();
        add(values, 2, 2, 1, 4, 3, 2, 2, 1, 1);
        add(values, 1, 1, 2, 3, 3, 1, 2, 0, 0, 0, 0, 5);
        add(values, 1, 3, 0, 1, 1, 9);
        add(values, 3, 2, 4, 5, 6, 2);
        add(values, 4, 2, 5);
        add(values, 5, 7, -1, 3, 4);
        add(values, 9, 8, 0, 7, 3, 1);
        add(values, 823543, 10000000);
        due("digest", x.digest(), hash(values));
        due("digest changes nothing", x.digest(), hash(values));
    }

    private static void add(List<Long> values, long... more) {
        for (long v : more) {
            values.add(v);
        }
    }

    private static long hash(List<Long> values) {
        long h = 1091;
        for (long v : values) {
            h = 31 * h + v;
        }
        return h;
    }

    private static void digestTellsApart() {
        CoalWood x = new CoalWood();
        long before = x.digest();
        x.image(0);
        due("IMAGES are not in it", x.digest(), before);
        x.burn(3);
        due("STATUS is not in it", x.digest(), before);
        x.type('a');
        long one = x.digest();
        CHECK.that("how many bytes THE TEXT has is in it", one != before);
        x.clear();
        x.type('b');
        due("which bytes THE TEXT has is not in it", x.digest(), one);
    }
}
