import java.math.BigInteger;
import java.util.function.ToLongFunction;

/** Boundary cases of promises 31 to 36, most with the sentence of the document that names them. */
public final class ThereEdgesTest {
    private static final Check CHECK = new Check("ThereEdgesTest");
    private static final int MAX = Integer.MAX_VALUE;
    private static final int MIN = Integer.MIN_VALUE;

    private static void due(String call, long got, long want) {
        CHECK.due(call, got, want);
    }

    public static void main(String[] args) {
        partAtFirst();
        imageOfNothing();
        imageKeepsAll();
        imageLeavesWhatItMay();
        imagesAreTwo();
        fromNoneKept();
        statusAtFirst();
        statusOfEveryReason();
        statusOfAnother();
        statusCountsNoneElse();
        statusUpToFiveHundred();
        countAtMost();
        askingChangesNothing();
        digestOfFull();
        digestWrapsAround();
        CHECK.end();
    }

    /** "THE FRACTION is 0 by 1 at first" */
    private static void partAtFirst() {
        CoalWood x = new CoalWood();
        due("above at first", x.part(0), 0);
        due("below at first", x.part(1), 1);
        x.pit();
        x.image(0);
        x.from(0);
        due("above still", x.part(0), 0);
        due("below still", x.part(1), 1);
        int[] numbers = {MIN, -2, -1, 2, 3, MAX};
        for (int what : numbers) {
            String name = "part(" + what + ")";
            new Twins(CHECK, Pits::middle).answers(name, y -> y.part(what), CoalWood.BAD, Twins.BAD).areAlike(name);
        }
    }

    /** An image of a new object is kept as any is. */
    private static void imageOfNothing() {
        for (int i = 0; i < 2; i++) {
            CoalWood x = new CoalWood();
            due("image(" + i + ")", x.image(i), 1);
            x.layer(0, 5);
            x.price(0, 9);
            x.lump(0, 0, 1);
            x.burn(0);
            x.evening(0);
            x.seen(6, 0, 0);
            x.glimpse(0, 0, 0);
            due("from(" + i + ")", x.from(i), 1);
            due("nothing again", x.digest(), new CoalWood().digest());
            due("undo", x.undo(), CoalWood.NO);
            due("from(" + (1 - i) + ")", x.from(1 - i), CoalWood.NO);
        }
    }

    /** "IMAGES 0, 1 keep all but them ..; what may be undone they keep; it goes on from one." */
    private static void imageKeepsAll() {
        for (int i = 0; i < 2; i++) {
            CoalWood x = Pits.brimful();
            CoalWood y = Pits.brimful();
            x.image(i);
            x.pit();
            x.lump(3, 3, 3);
            x.burn(0);
            x.from(i);
            due("all of a full pit", x.digest(), y.digest());
            due("from again", x.from(i), 1);
            due("all of a full pit again", x.digest(), y.digest());
            due("rows are whole: fits", x.fits(0), y.fits(0));
            due("rows are whole: walks", x.walks(), y.walks());
            while (y.count(7) > 0) {
                due("undo from an image", x.undo(), y.undo());
                due("undone from an image", x.digest(), y.digest());
            }
            due("undo from an image, no further", x.undo(), CoalWood.NO);
            due("it goes on: burn", x.burn(3), y.burn(3));
            due("it goes on", x.digest(), y.digest());
        }
    }

    /** "all but them, THE TEXT, THE FRACTION and STATUS" */
    private static void imageLeavesWhatItMay() {
        CoalWood x = Pits.kinds();
        x.image(0);
        x.type('p');
        x.odds(0, 1, 5);
        x.burn(6);
        x.undo();
        for (int k = 0; k < 11; k++) {
            x.evening(0);
        }
        x.image(1);
        x.from(0);
        due("THE TEXT", x.count(8), 1);
        due("THE FRACTION above", x.part(0), 1);
        due("THE FRACTION below", x.part(1), 8);
        due("BAD", x.status(0), 1);
        due("NO", x.status(1), 1);
        due("FULL", x.status(2), 1);
        due("EVENING", x.count(4), 0);
        due("the other image is kept still", x.from(1), 1);
        due("EVENING of the other", x.count(4), 10);
    }

    /** Each image is its own; a later one takes the place of the one ahead of it. */
    private static void imagesAreTwo() {
        CoalWood x = new CoalWood();
        x.layer(0, 1);
        x.image(0);
        x.layer(0, 2);
        x.image(1);
        x.layer(0, 3);
        x.from(0);
        due("image 0", x.layer(0, 4), 1);
        x.from(1);
        due("image 1", x.layer(0, 5), 2);
        x.from(0);
        due("image 0 is as it was kept", x.layer(0, 3), 1);
        x.image(0);
        x.from(1);
        due("image 1 is as it was kept", x.layer(0, 0), 2);
        x.from(0);
        due("image 0 is the later one", x.layer(0, 0), 3);
        x.from(1);
        x.image(0);
        x.layer(0, 0);
        x.from(0);
        due("image 0 is as image 1", x.layer(0, 0), 2);
    }

    /** "NO: none was kept." */
    private static void fromNoneKept() {
        for (int k = 0; k < 2; k++) {
            int i = k;
            String name = "from(" + i + "), none kept";
            new Twins(CHECK, Pits::kinds).answers(name, x -> x.from(i), CoalWood.NO, Twins.NO).areAlike(name);
            new Twins(CHECK, () -> kept(1 - i)).answers(name, x -> x.from(i), CoalWood.NO, Twins.NO).areAlike(name);
        }
        CoalWood x = new CoalWood();
        x.image(2);
        x.image(-1);
        due("an image that was refused is not kept", x.from(0), CoalWood.NO);
        due("an image that was refused is not kept", x.from(1), CoalWood.NO);
    }

    private static CoalWood kept(int i) {
        CoalWood x = Pits.kinds();
        x.burn(0);
        x.image(i);
        x.burn(1);
        return x;
    }

    private static void statusAtFirst() {
        CoalWood x = new CoalWood();
        for (int what = 0; what < 3; what++) {
            due("status(" + what + ") at first", x.status(what), 0);
        }
        for (int what = 0; what < 3; what++) {
            due("status(" + what + ") counts nothing itself", x.status(what), 0);
        }
    }

    private static void counts(String name, ToLongFunction<CoalWood> call, long answer, int where) {
        new Twins(CHECK, Pits::brimful).answers(name, call, answer, where).areAlike(name);
    }

    /** "how many calls were refused as BAD, NO, FULL (each answer told so below is such a one ..)": each call's. */
    private static void statusOfEveryReason() {
        counts("layer", x -> x.layer(12, 6), -2, Twins.BAD);
        counts("price", x -> x.price(6, 10), -2, Twins.BAD);
        counts("lump, BAD", x -> x.lump(6, 12, 7), -2, Twins.BAD);
        counts("lump, FULL", x -> x.lump(0, 0, 1), -4, Twins.FULL);
        counts("type, BAD", x -> x.type(128), -2, Twins.BAD);
        counts("type, FULL", x -> x.type(32), -4, Twins.FULL);
        counts("burn, BAD", x -> x.burn(8), -2, Twins.BAD);
        counts("burn, NO", x -> x.burn(7), -3, Twins.NO);
        counts("of", x -> x.of(8, 7), -2, Twins.BAD);
        counts("shows", x -> x.shows(8, 21), -2, Twins.BAD);
        counts("clash", x -> x.clash(8, 8, 21), -2, Twins.BAD);
        counts("agree", x -> x.agree(8), -2, Twins.BAD);
        counts("evening, BAD", x -> x.evening(6), -2, Twins.BAD);
        counts("evening, FULL", x -> x.evening(5), -4, Twins.FULL);
        counts("fewest", x -> x.fewest(-2), -10, Twins.BAD);
        counts("best", x -> x.best(100, 2), -2, Twins.BAD);
        counts("cut", x -> x.cut(7, -3), -10, Twins.BAD);
        counts("seen, BAD", x -> x.seen(7, 13, 6), -2, Twins.BAD);
        counts("seen, FULL", x -> x.seen(6, 12, 5), -4, Twins.FULL);
        counts("fits", x -> x.fits(2), -10, Twins.BAD);
        counts("glimpse, BAD", x -> x.glimpse(12, 9, 2), -2, Twins.BAD);
        counts("glimpse, FULL", x -> x.glimpse(11, 8, 1), -4, Twins.FULL);
        counts("places", x -> x.places(12), -2, Twins.BAD);
        counts("odds", x -> x.odds(8, 6, 11), -2, Twins.BAD);
        counts("drawn", x -> x.drawn(1000000, 61), -2, Twins.BAD);
        counts("part", x -> x.part(2), -2, Twins.BAD);
        counts("image", x -> x.image(2), -2, Twins.BAD);
        counts("from, BAD", x -> x.from(2), -2, Twins.BAD);
        counts("count", x -> x.count(9), -2, Twins.BAD);
        counts("status", x -> x.status(3), -1, Twins.BAD);
    }

    /** "-1: another what (counts as BAD)." */
    private static void statusOfAnother() {
        int[] numbers = {MIN, -4, -3, -2, -1, 3, 4, MAX};
        for (int what : numbers) {
            String name = "status(" + what + ")";
            new Twins(CHECK, CoalWood::new).answers(name, x -> x.status(what), -1, Twins.BAD).areAlike(name);
        }
    }

    /** What is no refusal, whatever it answers, counts nowhere: NONE, -5, faults, refused items. */
    private static void statusCountsNoneElse() {
        counts("shows, NONE", x -> x.shows(0, 20), CoalWood.NONE, Twins.NOWHERE);
        counts("clash, NONE", x -> x.clash(0, 1, 20), CoalWood.NONE, Twins.NOWHERE);
        counts("fewest, -5", x -> x.fewest(-1), -5, Twins.NOWHERE);
        counts("fewest, -5", x -> x.fewest(MAX), -5, Twins.NOWHERE);
        counts("cut, -5", x -> x.cut(6, MAX), -5, Twins.NOWHERE);
        counts("fits, NONE", x -> x.fits(1), CoalWood.NONE, Twins.NOWHERE);
        counts("look, NONE", CoalWood::look, CoalWood.NONE, Twins.NOWHERE);
        new Twins(CHECK, CoalWood::new).answers("read, a fault", CoalWood::read, -10, Twins.NOWHERE).areAlike("read");
        new Twins(CHECK, ThereEdgesTest::refusedItem).answers("read, an item", CoalWood::read, -1001, Twins.NOWHERE)
            .areAlike("read, an item");
    }

    private static CoalWood refusedItem() {
        CoalWood x = Pits.middle();
        Pits.type(x, "pit;lump 0 12 1;");
        return x;
    }

    /** As many as an object may be asked for. */
    private static void statusUpToFiveHundred() {
        CoalWood x = new CoalWood();
        for (int k = 0; k < 250; k++) {
            x.burn(0);
            x.undo();
        }
        due("BAD", x.status(0), 250);
        due("NO", x.status(1), 250);
        due("FULL", x.status(2), 0);
    }

    /** Each count at the most it can be; with count(9) and count(-1) beside. */
    private static void countAtMost() {
        CoalWood x = new CoalWood();
        x.price(0, 9);
        for (int k = 0; k < 8; k++) {
            x.lump(3, 0, 6);
        }
        for (int k = 0; k < 8; k++) {
            x.burn(k);
            x.seen(1, 0, 0);
            x.glimpse(0, 0, 0);
        }
        for (int k = 0; k < 12; k++) {
            x.evening(0);
        }
        for (int k = 0; k < 152; k++) {
            x.type(0);
        }
        int[] most = {8, 255, 864, 96, 10, 8, 6, 8, 150};
        for (int what = 0; what <= 8; what++) {
            due("count(" + what + ") at most", x.count(what), most[what]);
        }
        due("count(9)", x.count(9), CoalWood.BAD);
        due("count(-1)", x.count(-1), CoalWood.BAD);
        due("BAD", x.status(0), 2);
        due("FULL", x.status(2), 2 + 2 + 2);
    }

    /** "(What is below changes nothing.)": asking does not. */
    private static void askingChangesNothing() {
        for (int k = 0; k < 8; k++) {
            int i = k;
            Twins ofLumps = new Twins(CHECK, Pits::brimful);
            ofLumps.allowed("of", x -> x.of(i, 6));
            ofLumps.allowed("shows", x -> x.shows(i, i));
            ofLumps.allowed("clash", x -> x.clash(i, (i + 1) % 8, i));
            ofLumps.allowed("agree", x -> x.agree(i));
            ofLumps.areAlike("asking for " + i);
        }
        Twins twins = new Twins(CHECK, Pits::brimful);
        twins.allowed("fewest", x -> x.fewest(-1));
        twins.allowed("rows", x -> x.rows());
        twins.allowed("best", x -> x.best(99, 0));
        twins.allowed("cut", x -> x.cut(4, 0));
        twins.allowed("fits", x -> x.fits(0));
        twins.allowed("look", x -> x.look());
        twins.allowed("walks", CoalWood::walks);
        twins.allowed("places", x -> x.places(11));
        twins.allowed("leftTo", x -> x.leftTo());
        twins.allowed("drawn", x -> x.drawn(999999, 60));
        twins.allowed("part", x -> x.part(1));
        twins.allowed("count", x -> x.count(8));
        twins.allowed("digest", CoalWood::digest);
        twins.areAlike("asking");
    }

    private static long hash(long... values) {
        BigInteger h = BigInteger.valueOf(1091);
        for (long v : values) {
            h = h.multiply(BigInteger.valueOf(31)).add(BigInteger.valueOf(v));
        }
        return h.longValue();
    }

    /** "h = 31 h + v for each v", with every row full; BURNT LUMPS 2, 4, 7, 0 are paid 4, 5, 13, 5. */
    private static void digestOfFull() {
        CoalWood x = Pits.brimful();
        due("digest of a full pit", x.digest(), hash(
            8, 1 + 4 + 16 + 128, 4 + 5 + 13 + 5, 2 + 4 + 12 + 3, 10, 8, 6, 4, 150,
            1, 1, 2, 3, 3, 1, 2, 0, 0, 0, 0, 5,
            1, 3, 0, 1, 1, 9,
            0, 3, 3, 1, 3, 3, 2, 3, 3, 3, 3, 3, 4, 3, 3, 5, 3, 3, 0, 0, 6, 5, 6, 6,
            0, 1, 2, 3, 4, 5, 0, 1, 2, 3,
            4, 0, -1, 1, 0, 2, 1, 3, -1, 4, 0, 5, 1, 6, -1, 7, 0,
            0, 0, 0, 2, 1, 0, 4, 2, 0, 6, 3, 0, 8, 4, 0, 10, 5, 0,
            343, 1000));
    }

    /** The number wraps around as Java's long does, also by what is below 0 in it. */
    private static void digestWrapsAround() {
        CoalWood x = new CoalWood();
        for (int k = 0; k < 8; k++) {
            x.seen(6, 12, -1);
        }
        due("digest of NONE", x.digest(), hash(
            0, 0, 0, 0, 0, 8, 0, 0, 0,
            0, 0, 0, 0, 0, 0, 0, 0, 0, 0, 0, 0,
            1, 1, 1, 1, 1, 1,
            6, 12, -1, 12, -1, 12, -1, 12, -1, 12, -1, 12, -1, 12, -1, 12, -1,
            0, 1));
        x.lump(3, 0, 6);
        x.layer(5, 2);
        x.odds(0, 2, 1);
        x.forget();
        due("digest of a great fraction", x.digest(), hash(
            1, 0, 0, 0, 0, 0, 0, 0, 0,
            0, 0, 0, 0, 0, 2, 0, 0, 0, 0, 0, 0,
            1, 1, 1, 1, 1, 1,
            3, 0, 6,
            1,
            31381059609L, 100000000000L));
    }
}
