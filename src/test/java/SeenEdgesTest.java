import java.math.BigInteger;

/** Boundary cases of promises 21 to 30, most with the sentence of the document that names them. */
public final class SeenEdgesTest {
    private static final Check CHECK = new Check("SeenEdgesTest");
    private static final int MAX = Integer.MAX_VALUE;
    private static final int MIN = Integer.MIN_VALUE;
    private static final int PLAIN = 0, DAMP = 3;
    private static final long ALL_WALKS = 21992109L;
    /** For each CELL, as bits: it and those beside it. */
    private static final int[] BESIDE = {
        0b000001011, 0b000010111, 0b000100110,
        0b001011001, 0b010111010, 0b100110100,
        0b011001000, 0b111010000, 0b110100000
    };

    private static void due(String call, long got, long want) {
        CHECK.due(call, got, want);
    }

    public static void main(String[] args) {
        seenUpToFull();
        seenSizeToldLast();
        forgetAll();
        fitsBySize();
        fitsByKind();
        fitsNoneAndAll();
        fitsLastPair();
        fitsWrong();
        lookNone();
        lookFirstAndLast();
        lookCountsSmoke();
        glimpseUpToFull();
        walksFromEveryCell();
        walksOneAndNone();
        walksInFirstAndLastLayer();
        placesOfEveryCell();
        placesOfNoWalk();
        leftToEveryLayer();
        leftToNoWalk();
        oddsNeverAndEver();
        oddsLowestTerms();
        oddsSteps();
        oddsRefused();
        drawnNone();
        drawnSeeds();
        drawnLumpsThereAre();
        drawnMost();
        CHECK.end();
    }

    /** "SEEN 0 .. 7, as they come"; "how many there are. BAD; FULL: 8." */
    private static void seenUpToFull() {
        CoalWood x = new CoalWood();
        for (int k = 1; k <= 8; k++) {
            due("seen, the " + k + "th", x.seen(1 + k % 6, 12, -1), k);
        }
        long state = x.digest();
        int fits = x.fits(0);
        for (int n = 1; n <= 6; n++) {
            due("seen of size " + n + ", the 9th", x.seen(n, 0, 0), CoalWood.FULL);
            due("SIZE as told last", x.fits(0), fits);
        }
        due("the same", x.digest(), state);
        due("SEEN", x.count(5), 8);
        due("FULL", x.status(2), 6);
        due("BAD ahead of FULL", x.seen(0, 0, 0), CoalWood.BAD);
        due("forget", x.forget(), 8);
        due("seen behind forget", x.seen(1, 0, 0), 1);
    }

    /** "of SIZE n (1 .. 6; the one told last for all)": not by one that is refused. */
    private static void seenSizeToldLast() {
        CoalWood x = new CoalWood();
        int[] sizes = {6, 1, 5, 2, 4, 3};
        for (int n : sizes) {
            x.seen(n, 12, -1);
            due("SIZE " + n, x.fits(0), 6 * (13 - n));
        }
        x.seen(7, 12, -1);
        x.seen(0, 12, -1);
        x.seen(1, 13, -1);
        x.seen(1, -1, -1);
        x.seen(1, 12, -2);
        x.seen(1, 12, 6);
        due("SIZE behind BAD", x.fits(0), 60);
        due("SEEN behind BAD", x.count(5), 6);
        x.image(0);
        x.seen(1, 12, -1);
        x.from(0);
        due("SIZE from an image", x.fits(0), 60);
    }

    /** "No SEEN, no GLIMPSES: how many there were together." */
    private static void forgetAll() {
        CoalWood x = Pits.brimful();
        CoalWood y = Pits.brimful();
        due("forget of 8 and 6", x.forget(), 14);
        due("forget of none", x.forget(), 0);
        for (int what = 0; what <= 8; what++) {
            due("forget: count(" + what + ")", x.count(what), what == 5 || what == 6 ? 0 : y.count(what));
        }
        due("(No SEEN: SIZE 1.)", x.fits(0), 72);
        due("walks", x.walks(), ALL_WALKS);
        for (int k = 0; k < 8; k++) {
            due("seen behind forget", x.seen(4, k, k % 3 - 1), k + 1);
        }
        for (int k = 0; k < 6; k++) {
            due("glimpse behind forget", x.glimpse(2 * k, k, 0), k + 1);
        }
        due("the same again", x.digest(), y.digest());
        CoalWood z = new CoalWood();
        z.seen(6, 0, 0);
        due("forget of SEEN alone", z.forget(), 1);
        z.glimpse(0, 0, 1);
        due("forget of GLIMPSES alone", z.forget(), 1);
    }

    /** "pairs of a KIND and a LAYER a (a and n 12 at most)"; ash in STEP 12 fits all. */
    private static void fitsBySize() {
        for (int n = 1; n <= 6; n++) {
            CoalWood x = new CoalWood();
            x.seen(n, 12, CoalWood.NONE);
            due("all of SIZE " + n, x.fits(0), 6 * (13 - n));
            due("all of SIZE " + n + ": the first", x.fits(1), 0);
            x.seen(n, 12, 0);
            due("none of SIZE " + n + " burns in STEP 12", x.fits(0), 0);
            due("none of SIZE " + n + ": the first", x.fits(1), CoalWood.NONE);
        }
    }

    /** Of all KINDS in each STEP: which show, for every SIZE; CANNEL has one STEP more than BACK, DAMP twice PLAIN. */
    private static void fitsByKind() {
        for (int n = 1; n <= 6; n++) {
            for (int t = 0; t <= 12; t++) {
                CoalWood x = new CoalWood();
                x.seen(n, t, 0);
                int kinds = (t < n ? 2 : 0) + (t < (n + 1) / 2 ? 1 : 0) + (t < 2 * n ? 1 : 0)
                    + (t >= 1 && t <= n ? 1 : 0) + (t < 2 * n && t % 2 == 0 ? 1 : 0);
                due("SIZE " + n + ", STEP " + t + ": a WEATHER", x.fits(0), kinds * (13 - n));
                CoalWood y = new CoalWood();
                y.seen(n, t, CoalWood.NONE);
                due("SIZE " + n + ", STEP " + t + ": NONE", y.fits(0), (6 - kinds) * (13 - n));
            }
        }
    }

    /** "by which all SEEN are so: how many; the first (12 times the KIND and a; none)" */
    private static void fitsNoneAndAll() {
        CoalWood x = new CoalWood();
        due("no SEEN", x.fits(0), 72);
        due("no SEEN: the first", x.fits(1), 0);
        x.seen(6, 0, 5);
        due("a WEATHER that no LAYER has", x.fits(0), 0);
        due("a WEATHER that no LAYER has: the first", x.fits(1), CoalWood.NONE);
        x.layer(11, 5);
        due("the last LAYER has it: BACK from 6", x.fits(0), 1);
        due("the first", x.fits(1), 12 + 6);
        x.layer(0, 5);
        due("the first LAYER has it: PLAIN, BACK, SLACK, DAMP, SPIT", x.fits(0), 5);
        due("the first", x.fits(1), 0);
        x.seen(6, 0, CoalWood.NONE);
        due("a WEATHER and NONE", x.fits(0), 0);
        due("NONE counts nowhere", x.status(0) + x.status(1) + x.status(2), 0);
    }

    /** The last pair that can be the only one: SPIT of 2 from LAYER 10 on. */
    private static void fitsLastPair() {
        CoalWood x = new CoalWood();
        x.layer(11, 5);
        x.seen(2, 1, CoalWood.NONE);
        x.seen(2, 2, 5);
        due("SPIT of 2", x.fits(0), 1);
        due("SPIT of 2: the first", x.fits(1), 70);
        CoalWood y = new CoalWood();
        y.layer(11, 5);
        y.seen(1, 1, 5);
        due("DAMP, CANNEL of 1 from LAYER 11", y.fits(0), 2);
        due("DAMP of 1: the first", y.fits(1), 47);
        y.seen(1, 0, CoalWood.NONE);
        due("CANNEL of 1", y.fits(0), 1);
        due("CANNEL of 1: the first", y.fits(1), 59);
    }

    /** "BAD: -10.": whatever is SEEN. */
    private static void fitsWrong() {
        int[] numbers = {MIN, -10, -2, -1, 2, 3, MAX};
        for (int what : numbers) {
            String name = "fits(" + what + ")";
            new Twins(CHECK, CoalWood::new).answers(name, x -> x.fits(what), -10, Twins.BAD).areAlike(name);
            new Twins(CHECK, Pits::brimful).answers(name, x -> x.fits(what), -10, Twins.BAD).areAlike(name);
        }
    }

    /** "none: no pair"; "LOOK. NONE." */
    private static void lookNone() {
        new Twins(CHECK, SeenEdgesTest::noPair).answers("look, no pair", CoalWood::look, CoalWood.NONE, Twins.NOWHERE)
            .areAlike("look, no pair");
        CoalWood x = new CoalWood();
        due("look, all pairs", x.look(), 1);
        x.seen(6, 11, 0);
        due("look, pairs that are alike in all STEPS", x.look(), 0);
    }

    private static CoalWood noPair() {
        CoalWood x = new CoalWood();
        x.seen(1, 12, 0);
        return x;
    }

    /** "the STEP (0 .. 12) by which the most pairs that show alike are fewest ..; of like ones the first" */
    private static void lookFirstAndLast() {
        CoalWood x = new CoalWood();
        x.seen(6, 9, 0);
        due("seven of DAMP", x.fits(0), 7);
        due("all STEPS are like: the first", x.look(), 0);
        for (int last = 0; last <= 5; last++) {
            CoalWood y = new CoalWood();
            y.layer(6 + last, 1);
            y.seen(6, last == 5 ? 9 : 11, 0);
            due("DAMP from LAYER 6 on is the first unlike one, in STEP " + 2 * last, y.look(), 2 * last);
        }
        CoalWood z = new CoalWood();
        z.layer(0, 1);
        z.seen(6, 11, 0);
        due("DAMP from LAYER 0 on is unlike in STEP 0", z.look(), 0);
        CoalWood one = new CoalWood();
        one.layer(0, 1);
        one.seen(1, 0, 1);
        one.seen(1, 1, 1);
        due("one pair", one.fits(0), 1);
        due("one pair: the first STEP", one.look(), 0);
    }

    /** "(WEATHER, or NONE)": those that show none are alike, smoke and ash. */
    private static void lookCountsSmoke() {
        CoalWood x = new CoalWood();
        x.seen(1, 12, CoalWood.NONE);
        due("of 1: 24 show in STEP 1, 48 do not", x.look(), 1);
        CoalWood y = new CoalWood();
        y.seen(6, 12, CoalWood.NONE);
        due("of 6: 35 in STEP 0, 28 in STEP 3, 21 in STEP 6", y.look(), 6);
        CoalWood z = new CoalWood();
        z.seen(2, 1, CoalWood.NONE);
        due("of 2: SLACK, SPIT", z.fits(0), 22);
        due("of 2: they part in STEP 2", z.look(), 2);
    }

    /** "GLIMPSES 0 .. 5, as they come"; "how many there are. BAD; FULL: 6." */
    private static void glimpseUpToFull() {
        CoalWood x = new CoalWood();
        for (int k = 1; k <= 6; k++) {
            due("glimpse, the " + k + "th", x.glimpse(k, k, 0), k);
        }
        long state = x.digest();
        long walks = x.walks();
        due("the 7th, there", x.glimpse(0, 0, 1), CoalWood.FULL);
        due("the 7th, not there", x.glimpse(11, 8, 0), CoalWood.FULL);
        due("the same as one that is", x.glimpse(1, 1, 0), CoalWood.FULL);
        due("BAD ahead of FULL", x.glimpse(0, 0, 2), CoalWood.BAD);
        due("the same", x.digest(), state);
        due("the same walks", x.walks(), walks);
        due("FULL", x.status(2), 3);
        due("forget", x.forget(), 6);
        due("glimpse behind forget", x.glimpse(0, 0, 1), 1);
    }

    /** "each day in one of 9 CELLS (three rows of three), the next day in the same one or one beside" */
    private static void walksFromEveryCell() {
        long first = 0;
        long last = 0;
        long middle = 0;
        for (int cell = 0; cell < 9; cell++) {
            first += seenIn(0, cell).walks();
            last += seenIn(11, cell).walks();
            middle += seenIn(6, cell).walks();
            due("as many ways there as back", seenIn(0, cell).walks(), seenIn(11, cell).walks());
        }
        due("all from LAYER 0", first, ALL_WALKS);
        due("all to LAYER 11", last, ALL_WALKS);
        due("all through LAYER 6", middle, ALL_WALKS);
        for (int cell = 0; cell < 9; cell++) {
            CoalWood x = new CoalWood();
            x.glimpse(11, cell, 0);
            due("not there and there are all", x.walks() + seenIn(11, cell).walks(), ALL_WALKS);
        }
    }

    private static CoalWood seenIn(int layer, int cell) {
        CoalWood x = new CoalWood();
        x.glimpse(layer, cell, 1);
        return x;
    }

    private static void walksOneAndNone() {
        CoalWood x = new CoalWood();
        int[][] there = {{0, 0}, {4, 8}, {8, 0}};
        for (int[] pair : there) {
            x.glimpse(pair[0], pair[1], 1);
        }
        due("corner to corner and back: 6 ways each, 64 beyond", x.walks(), 36 * seenThreeDays());
        x.glimpse(11, 8, 1);
        due("four days' way in three", x.walks(), 0);
        CoalWood y = seenIn(5, 4);
        y.glimpse(5, 4, 1);
        due("the same twice", y.walks(), seenIn(5, 4).walks());
        y.glimpse(5, 3, 0);
        due("there, so not beside", y.walks(), seenIn(5, 4).walks());
        y.glimpse(5, 3, 1);
        due("in two CELLS at once", y.walks(), 0);
        CoalWood z = seenIn(0, 0);
        z.glimpse(0, 0, 0);
        due("there and not there", z.walks(), 0);
    }

    /** Ways of three days from a corner, counted out. */
    private static long seenThreeDays() {
        long ways = 0;
        for (int a = 0; a < 9; a++) {
            for (int b = 0; b < 9; b++) {
                for (int c = 0; c < 9; c++) {
                    ways += (BESIDE[0] >> a & BESIDE[a] >> b & BESIDE[b] >> c & 1) == 1 ? 1 : 0;
                }
            }
        }
        return ways;
    }

    /** "LAYER 0 to 11": the first day and the last bind as any does. */
    private static void walksInFirstAndLastLayer() {
        CoalWood x = new CoalWood();
        for (int cell = 0; cell < 6; cell++) {
            x.glimpse(0, cell, 0);
        }
        due("not in the first two rows at first", x.places(0), 0b111000000);
        CoalWood y = new CoalWood();
        for (int cell = 3; cell < 9; cell++) {
            y.glimpse(11, cell, 0);
        }
        due("in the first row at last", y.places(11), 0b111);
        due("as many", x.walks(), y.walks());
        long lastRow = seenIn(0, 6).walks() + seenIn(0, 7).walks() + seenIn(0, 8).walks();
        due("the three from the last row", x.walks(), lastRow);
    }

    /** "(above, below, left, right)": no way around an edge. */
    private static void placesOfEveryCell() {
        for (int cell = 0; cell < 9; cell++) {
            for (int layer = 0; layer < 12; layer++) {
                CoalWood x = seenIn(layer, cell);
                due("in CELL " + cell + ", LAYER " + layer, x.places(layer), 1 << cell);
                if (layer < 11) {
                    due("the day behind CELL " + cell, x.places(layer + 1), BESIDE[cell]);
                }
                if (layer > 0) {
                    due("the day ahead of CELL " + cell, x.places(layer - 1), BESIDE[cell]);
                }
            }
        }
    }

    private static void placesOfNoWalk() {
        CoalWood x = seenIn(0, 0);
        x.glimpse(3, 8, 1);
        for (int layer = 0; layer < 12; layer++) {
            due("no WALK: places(" + layer + ")", x.places(layer), 0);
        }
        due("no WALK counts nowhere", x.status(0) + x.status(1) + x.status(2), 0);
        due("places(12)", x.places(12), CoalWood.BAD);
        due("places(-1)", x.places(-1), CoalWood.BAD);
    }

    /** "the LAYER in which there are most such CELLS; of like ones the first": it can be any of 0 to 11. */
    private static void leftToEveryLayer() {
        due("no GLIMPSES", new CoalWood().leftTo(), 0);
        for (int most = 1; most <= 6; most++) {
            CoalWood x = new CoalWood();
            for (int layer = 0; layer < most; layer++) {
                x.glimpse(layer, layer, 0);
            }
            due("one CELL less in LAYERS ahead of " + most, x.leftTo(), most);
        }
        for (int most = 4; most <= 11; most++) {
            CoalWood x = seenIn(most - 4, 0);
            for (int layer = 0; layer <= most - 8; layer++) {
                x.glimpse(layer, 8, 0);
            }
            due("four days behind a corner: LAYER " + most, x.leftTo(), most);
        }
        CoalWood y = seenIn(8, 4);
        due("LAYERS 0 to 6 are like: the first", y.leftTo(), 0);
    }

    /** "none: no WALK"; "LEFT TO. NONE." */
    private static void leftToNoWalk() {
        new Twins(CHECK, SeenEdgesTest::noWalk)
            .answers("leftTo, no WALK", CoalWood::leftTo, CoalWood.NONE, Twins.NOWHERE)
            .areAlike("leftTo, no WALK");
    }

    private static CoalWood noWalk() {
        CoalWood x = seenIn(11, 0);
        x.glimpse(10, 2, 1);
        return x;
    }

    private static void odds(CoalWood x, int lump, int weather, int c, long above, long below) {
        String call = "odds(" + lump + ", " + weather + ", " + c + ")";
        due(call, x.odds(lump, weather, c), 1);
        due(call + " above", x.part(0), above);
        due(call + " below", x.part(1), below);
    }

    /** "goes out ahead of each of its STEPS by c of 10 (0 .. 10)" */
    private static void oddsNeverAndEver() {
        CoalWood x = Pits.kinds();
        for (int lump = 0; lump < 6; lump++) {
            odds(x, lump, 3, 0, 1, 1);
            odds(x, lump, 3, 10, 0, 1);
            odds(x, lump, 1, 0, 1, 1);
            odds(x, lump, 1, 10, 0, 1);
            odds(x, lump, 0, 0, 0, 1);
            odds(x, lump, 5, 5, 0, 1);
            odds(x, lump, 0, 10, 0, 1);
        }
    }

    private static void powers(CoalWood x, String what, int lump, int weather, int power) {
        for (int c = 0; c <= 10; c++) {
            BigInteger over = BigInteger.valueOf(10 - c).pow(power);
            BigInteger under = BigInteger.TEN.pow(power);
            BigInteger by = over.gcd(under);
            due(what + ", odds by " + c, x.odds(lump, weather, c), 1);
            due(what + ", odds by " + c + ": above", x.part(0), over.divide(by).longValueExact());
            due(what + ", odds by " + c + ": below", x.part(1), under.divide(by).longValueExact());
            CHECK.that("below above 0", x.part(1) > 0);
        }
    }

    /** "lowest terms, below above 0": by every c. */
    private static void oddsLowestTerms() {
        CoalWood x = new CoalWood();
        x.layer(5, 2);
        x.lump(DAMP, 0, 6);
        powers(x, "STEP 0", 0, 0, 1);
        powers(x, "STEP 10", 0, 2, 11);
    }

    /** "the chance that a WEATHER shows": it must burn on to the first STEP that shows it, STEP 0 among them. */
    private static void oddsSteps() {
        int[] first = {1, 6, 1, 1, 7, 1};
        int[] last = {6, 1, 0, 11, 2, 11};
        int[] fourth = {5, 2, 3, 9, 3, 9};
        for (int kind = 0; kind < 6; kind++) {
            CoalWood x = new CoalWood();
            x.layer(0, 1);
            x.layer(4, 3);
            x.layer(5, 2);
            x.lump(kind, 0, 6);
            powers(x, "kind " + kind + ", LAYER 0", 0, 1, first[kind]);
            powers(x, "kind " + kind + ", LAYER 4", 0, 3, fourth[kind]);
            if (last[kind] > 0) {
                powers(x, "kind " + kind + ", LAYER 5", 0, 2, last[kind]);
            } else {
                odds(x, 0, 2, 3, 0, 1);
            }
        }
    }

    /** A call that is refused leaves THE FRACTION; one that finds no chance sets it to 0 by 1. */
    private static void oddsRefused() {
        int[][] numbers = {
            {-1, 0, 0}, {6, 0, 0}, {0, -1, 0}, {0, 6, 0}, {0, 0, -1}, {0, 0, 11}, {MIN, MAX, MIN}, {MAX, MIN, MAX}
        };
        for (int[] n : numbers) {
            String name = "odds(" + n[0] + ", " + n[1] + ", " + n[2] + ")";
            new Twins(CHECK, Pits::middle)
                .answers(name, x -> x.odds(n[0], n[1], n[2]), CoalWood.BAD, Twins.BAD)
                .areAlike(name);
        }
        CoalWood x = Pits.middle();
        due("THE FRACTION", x.part(0), 343);
        x.odds(6, 1, 5);
        due("THE FRACTION then", x.part(0), 343);
        due("THE FRACTION then", x.part(1), 1000);
        odds(x, 0, 5, 5, 0, 1);
    }

    /** "n (0 .. 60)"; "is a LUMP, if there is one" */
    private static void drawnNone() {
        CoalWood x = new CoalWood();
        due("no lumps", x.drawn(0, 60), 0);
        for (int k = 0; k < 8; k++) {
            x.lump(PLAIN, 0, 1);
        }
        int[] seeds = {0, 1, 2, 499999, 999998, 999999};
        for (int seed : seeds) {
            for (int n = 0; n <= 60; n++) {
                due("eight like ones, drawn(" + seed + ", " + n + ")", x.drawn(seed, n), n);
            }
        }
        x.price(0, 0);
        due("worth nothing", x.drawn(999999, 60), 0);
    }

    private static int drawn(int seed, int n, int[] worths) {
        BigInteger x = BigInteger.valueOf(seed);
        BigInteger times = BigInteger.valueOf(1103515245);
        BigInteger more = BigInteger.valueOf(12345);
        BigInteger by = BigInteger.valueOf(2147483648L);
        int all = 0;
        for (int k = 0; k < n; k++) {
            x = x.multiply(times).add(more).mod(by);
            all += worths[x.divide(BigInteger.valueOf(65536)).mod(BigInteger.valueOf(8)).intValue()];
        }
        return all;
    }

    /** "DRAWN by a SEED (0 .. 999999)": X goes far beyond an int and is cut back each time. */
    private static void drawnSeeds() {
        int[] seeds = {0, 1, 2, 3, 65535, 65536, 123456, 500000, 777777, 999998, 999999};
        for (int seed : seeds) {
            CoalWood x = unlike(8);
            int[] worths = {0, 1, 2, 3, 5, 6, 8, 9};
            for (int n = 0; n <= 60; n += 4) {
                due("drawn(" + seed + ", " + n + ")", x.drawn(seed, n), drawn(seed, n, worths));
            }
            due("drawn(" + seed + ", 1)", x.drawn(seed, 1), drawn(seed, 1, worths));
            due("drawn(" + seed + ", 59)", x.drawn(seed, 59), drawn(seed, 59, worths));
            due("drawn(" + seed + ", 60) again", x.drawn(seed, 60), drawn(seed, 60, worths));
        }
    }

    /** LUMPS worth 0, 1, 2, 3, 5, 6, 8, 9, the first so many of them. */
    private static CoalWood unlike(int lumps) {
        CoalWood x = new CoalWood();
        int[] prices = {0, 1, 2, 3, 5, 6};
        for (int weather = 0; weather < 6; weather++) {
            x.layer(weather, weather);
            x.price(weather, prices[weather]);
        }
        x.layer(6, 4);
        x.layer(7, 3);
        x.layer(8, 5);
        for (int k = 0; k < lumps; k++) {
            x.lump(PLAIN, k < 6 ? k : k == 6 ? 6 : 7, k < 6 ? 1 : 2);
        }
        return x;
    }

    private static void drawnLumpsThereAre() {
        int[] worths = {0, 1, 2, 3, 5, 6, 8, 9};
        for (int lumps = 8; lumps >= 0; lumps--) {
            if (lumps < 8) {
                worths[lumps] = 0;
            }
            CoalWood x = unlike(lumps);
            due(lumps + " lumps", x.drawn(4711, 60), drawn(4711, 60, worths));
            for (int k = 0; k < lumps; k++) {
                x.burn(k);
            }
            due(lumps + " lumps, all BURNT", x.drawn(4711, 60), drawn(4711, 60, worths));
        }
        new Twins(CHECK, Pits::brimful).answers("drawn changes nothing", x -> x.drawn(1, 0), 0, Twins.NOWHERE)
            .areAlike("drawn");
    }

    private static void drawnMost() {
        CoalWood x = new CoalWood();
        x.price(0, 9);
        for (int k = 0; k < 8; k++) {
            x.lump(DAMP, 0, 6);
        }
        due("60 of 108", x.drawn(999999, 60), 6480);
        due("MONEY", x.count(2), 0);
        due("BURNT", x.count(1), 0);
    }
}
