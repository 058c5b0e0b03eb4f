/** Promises 21 to 30: what was seen. */
public final class SeenTest {
    private static final Check CHECK = new Check("SeenTest");
    private static final int MAX = Integer.MAX_VALUE;
    private static final int MIN = Integer.MIN_VALUE;
    private static final int ALL_WALKS = 21992109;

    private static void due(String call, long got, long want) {
        CHECK.due(call, got, want);
    }

    public static void main(String[] args) {
        seen();
        forget();
        fits();
        fitsSmokeAndAsh();
        fitsSizeToldLast();
        look();
        glimpse();
        walks();
        places();
        leftTo();
        odds();
        drawn();
        CHECK.end();
    }

    /** Promise 21. */
    private static void seen() {
        CoalWood x = new CoalWood();
        due("seen(0, 0, 0)", x.seen(0, 0, 0), CoalWood.BAD);
        due("seen(7, 0, 0)", x.seen(7, 0, 0), CoalWood.BAD);
        due("seen(1, -1, 0)", x.seen(1, -1, 0), CoalWood.BAD);
        due("seen(1, 13, 0)", x.seen(1, 13, 0), CoalWood.BAD);
        due("seen(1, 0, -2)", x.seen(1, 0, -2), CoalWood.BAD);
        due("seen(1, 0, 6)", x.seen(1, 0, 6), CoalWood.BAD);
        due("seen(max, min, max)", x.seen(MAX, MIN, MAX), CoalWood.BAD);
        due("count(5)", x.count(5), 0);
        due("SIZE behind BAD", x.fits(0), 72);
        due("seen(1, 12, -1)", x.seen(1, 12, -1), 1);
        due("seen(6, 0, 5)", x.seen(6, 0, 5), 2);
        for (int k = 3; k <= 8; k++) {
            due("seen, the " + k + "th", x.seen(2, 0, 0), k);
        }
        long state = x.digest();
        due("seen, the 9th", x.seen(3, 0, 0), CoalWood.FULL);
        due("SIZE behind FULL", x.digest(), state);
        due("seen, BAD ahead of FULL", x.seen(3, 0, 6), CoalWood.BAD);
        due("count(5) then", x.count(5), 8);
        due("status(0)", x.status(0), 8);
        due("status(2)", x.status(2), 1);
    }

    /** Promise 22. */
    private static void forget() {
        CoalWood x = new CoalWood();
        due("forget, nothing", x.forget(), 0);
        x.seen(3, 1, 1);
        x.seen(3, 2, 1);
        x.glimpse(1, 1, 1);
        due("forget of 3", x.forget(), 3);
        due("count(5)", x.count(5), 0);
        due("count(6)", x.count(6), 0);
        due("SIZE 1 again", x.fits(0), 72);
        due("walks again", x.walks(), ALL_WALKS);
        due("digest again", x.digest(), new CoalWood().digest());
        x.glimpse(1, 1, 0);
        due("forget of glimpses alone", x.forget(), 1);
        due("forget again", x.forget(), 0);
    }

    /** Promise 23: 1 1 2 3 3 1 2 0 0 0 0 5. */
    private static void fits() {
        CoalWood x = Pits.seam();
        due("no SEEN", x.fits(0), 72);
        due("no SEEN: the first", x.fits(1), 0);
        x.seen(1, 0, 5);
        due("5 of SIZE 1 in STEP 0: all but CANNEL", x.fits(0), 5);
        due("PLAIN, LAYER 11", x.fits(1), 11);
        x.forget();
        x.seen(2, 0, 3);
        due("SIZE 2, 3 in STEP 0: five kinds, two layers each", x.fits(0), 10);
        due("the first", x.fits(1), 3);
        x.seen(2, 1, 2);
        due("then 2: BACK from 2 on", x.fits(0), 1);
        due("BACK, LAYER 2", x.fits(1), 14);
        x.seen(2, 2, 2);
        due("none", x.fits(0), 0);
        due("none: the first", x.fits(1), CoalWood.NONE);
        due("NONE is not in STATUS", x.status(0), 0);
        due("fits(2)", x.fits(2), -10);
        due("fits(-1)", x.fits(-1), -10);
        due("fits(max)", x.fits(MAX), -10);
        due("status(0)", x.status(0), 3);
    }

    private static void fitsSmokeAndAsh() {
        CoalWood x = new CoalWood();
        x.seen(6, 0, CoalWood.NONE);
        due("smoke in STEP 0: CANNEL", x.fits(0), 7);
        due("CANNEL, LAYER 0", x.fits(1), 48);
        x.forget();
        x.seen(6, 12, CoalWood.NONE);
        due("ash in STEP 12: all", x.fits(0), 42);
        x.seen(6, 11, 0);
        due("but 0 in STEP 11: DAMP", x.fits(0), 7);
        due("DAMP, LAYER 0", x.fits(1), 36);
        x.forget();
        x.seen(6, 10, 0);
        x.seen(6, 9, CoalWood.NONE);
        due("0 behind smoke: SPIT", x.fits(1), 60);
        x.forget();
        x.seen(6, 2, 0);
        x.seen(6, 3, CoalWood.NONE);
        due("ash behind STEP 2: SLACK, SPIT", x.fits(0), 14);
        due("SLACK, LAYER 0", x.fits(1), 24);
    }

    private static void fitsSizeToldLast() {
        CoalWood x = new CoalWood();
        x.layer(2, 1);
        x.seen(6, 1, 1);
        due("SIZE 6", x.fits(1), 1);
        due("SIZE 6: 1 of PLAIN, BACK no, SLACK 0, DAMP 2", x.fits(0), 3);
        x.seen(3, 1, 1);
        due("SIZE 3 for all: PLAIN 1, BACK 1, SLACK 0, DAMP 2, CANNEL 0", x.fits(0), 5);
        due("SIZE 3: the first", x.fits(1), 1);
        x.seen(1, 2, CoalWood.NONE);
        due("SIZE 1 for all: DAMP, CANNEL", x.fits(0), 2);
        due("SIZE 1: DAMP, LAYER 2", x.fits(1), 38);
    }

    /** Promise 24. */
    private static void look() {
        CoalWood x = new CoalWood();
        due("look, of 72 in STEP 0 60 alike, in STEP 1 48", x.look(), 1);
        x.seen(1, 1, 0);
        due("look, DAMP or CANNEL", x.look(), 0);
        x.seen(1, 0, 0);
        due("look, DAMP alone: all steps are like", x.look(), 0);
        x.seen(1, 2, 0);
        due("look, no pair", x.look(), CoalWood.NONE);
        CoalWood z = new CoalWood();
        int[] weathers = {1, 2, 3, 0, 0, 4, 2, 1, 0, 0, 0, 0};
        for (int l = 0; l < 12; l++) {
            z.layer(l, weathers[l]);
        }
        z.seen(3, 0, 1);
        z.seen(3, 1, 2);
        due("look, PLAIN 0 or BACK 5", z.fits(0), 2);
        due("look, these are unlike in STEP 2", z.look(), 2);
        due("NONE is not in STATUS", x.status(0), 0);
        CoalWood y = new CoalWood();
        y.seen(6, 11, 0);
        due("look, DAMP: all alike", y.look(), 0);
        y.layer(11, 1);
        due("look, 1 in STEP 11 is seen: LAYERS 0 to 5 are left, all alike", y.look(), 0);
        y.layer(7, 1);
        y.layer(8, 1);
        y.layer(9, 1);
        due("look: LAYERS 0, 1, 5 are left, the last shows 1 in STEP 4", y.look(), 4);
    }

    /** Promise 25. */
    private static void glimpse() {
        CoalWood x = new CoalWood();
        due("glimpse(-1, 0, 0)", x.glimpse(-1, 0, 0), CoalWood.BAD);
        due("glimpse(12, 0, 0)", x.glimpse(12, 0, 0), CoalWood.BAD);
        due("glimpse(0, -1, 0)", x.glimpse(0, -1, 0), CoalWood.BAD);
        due("glimpse(0, 9, 0)", x.glimpse(0, 9, 0), CoalWood.BAD);
        due("glimpse(0, 0, -1)", x.glimpse(0, 0, -1), CoalWood.BAD);
        due("glimpse(0, 0, 2)", x.glimpse(0, 0, 2), CoalWood.BAD);
        due("glimpse(min, max, min)", x.glimpse(MIN, MAX, MIN), CoalWood.BAD);
        due("glimpse(11, 8, 1)", x.glimpse(11, 8, 1), 1);
        for (int k = 2; k <= 6; k++) {
            due("glimpse, the " + k + "th", x.glimpse(0, 0, 0), k);
        }
        due("glimpse, the 7th", x.glimpse(0, 0, 0), CoalWood.FULL);
        due("glimpse, BAD ahead of FULL", x.glimpse(0, 9, 0), CoalWood.BAD);
        due("count(6)", x.count(6), 6);
        due("status(0)", x.status(0), 8);
        due("status(2)", x.status(2), 1);
    }

    /** Promise 26, against all walks gone one by one. */
    private static void walks() {
        CoalWood x = new CoalWood();
        due("walks, all", x.walks(), ALL_WALKS);
        x.glimpse(3, 4, 1);
        x.glimpse(7, 0, 0);
        due("walks, seen in the middle", x.walks(), goAll(0));
        x.glimpse(9, 8, 1);
        x.glimpse(11, 6, 1);
        due("walks, seen in two places", x.walks(), goAll(1));
        x.glimpse(10, 7, 0);
        x.glimpse(10, 8, 0);
        due("walks, the ways between are shut", x.walks(), 0);
        CoalWood y = new CoalWood();
        y.glimpse(0, 0, 1);
        y.glimpse(0, 0, 0);
        due("walks, there and not there", y.walks(), 0);
        CoalWood z = new CoalWood();
        z.glimpse(0, 2, 1);
        z.glimpse(1, 3, 1);
        due("walks, from the end of a row to the next row's beginning", z.walks(), 0);
        CoalWood far = new CoalWood();
        far.glimpse(0, 0, 1);
        far.glimpse(4, 8, 1);
        far.glimpse(8, 0, 1);
        far.glimpse(11, 5, 1);
        due("walks, the shortest ways: 6, 6, 3", far.walks(), 108);
    }

    /** Goes all walks that the glimpses of each case leave. */
    private static long goAll(int which) {
        int[][] there = which == 0 ? new int[][] {{3, 4}} : new int[][] {{3, 4}, {9, 8}, {11, 6}};
        int[][] not = {{7, 0}};
        long all = 0;
        for (int cell = 0; cell < 9; cell++) {
            all += go(0, cell, there, not);
        }
        return all;
    }

    private static long go(int layer, int cell, int[][] there, int[][] not) {
        for (int[] glimpse : there) {
            if (glimpse[0] == layer && glimpse[1] != cell) {
                return 0;
            }
        }
        for (int[] glimpse : not) {
            if (glimpse[0] == layer && glimpse[1] == cell) {
                return 0;
            }
        }
        if (layer == 11) {
            return 1;
        }
        long all = 0;
        for (int next = 0; next < 9; next++) {
            int rows = Math.abs(next / 3 - cell / 3);
            int columns = Math.abs(next % 3 - cell % 3);
            if (rows + columns <= 1) {
                all += go(layer + 1, next, there, not);
            }
        }
        return all;
    }

    /** Promise 27. */
    private static void places() {
        CoalWood x = new CoalWood();
        for (int layer = 0; layer < 12; layer++) {
            due("places, all", x.places(layer), 511);
        }
        x.glimpse(5, 0, 1);
        due("places, in it", x.places(5), 1);
        due("places, a day ahead", x.places(4), 1 + 2 + 8);
        due("places, a day behind", x.places(6), 1 + 2 + 8);
        due("places, two days ahead", x.places(3), 1 + 2 + 4 + 8 + 16 + 64);
        due("places, three days ahead", x.places(2), 511 - 256);
        due("places, four days ahead", x.places(1), 511);
        x.glimpse(6, 0, 0);
        x.glimpse(6, 1, 0);
        due("places, not there", x.places(6), 8);
        due("places, behind that", x.places(7), 1 + 8 + 16 + 64);
        x.glimpse(7, 5, 1);
        for (int layer = 0; layer < 12; layer++) {
            due("places, no WALK", x.places(layer), 0);
        }
        due("places(-1)", x.places(-1), CoalWood.BAD);
        due("places(12)", x.places(12), CoalWood.BAD);
        due("places(max)", x.places(MAX), CoalWood.BAD);
        due("status(0)", x.status(0), 3);
    }

    /** Promise 28. */
    private static void leftTo() {
        CoalWood x = new CoalWood();
        due("leftTo, all like: the first", x.leftTo(), 0);
        CoalWood y = new CoalWood();
        y.glimpse(0, 8, 0);
        due("leftTo, one cell less in LAYER 0", y.leftTo(), 1);
        y.glimpse(1, 0, 0);
        y.glimpse(2, 0, 0);
        due("leftTo, one less in LAYERS 0, 1, 2", y.leftTo(), 3);
        x.glimpse(0, 4, 1);
        due("leftTo, from the middle all in two days", x.leftTo(), 2);
        x.glimpse(2, 0, 0);
        due("leftTo, one day later", x.leftTo(), 3);
        x.glimpse(11, 0, 1);
        due("leftTo, 3 to 7", x.leftTo(), 3);
        x.glimpse(3, 4, 0);
        x.glimpse(4, 4, 0);
        due("leftTo, 5 to 7", x.leftTo(), 5);
        x.glimpse(10, 8, 1);
        due("leftTo, no WALK", x.leftTo(), CoalWood.NONE);
        due("NONE is not in STATUS", x.status(0), 0);
    }

    private static void odds(CoalWood x, int lump, int weather, int c, long above, long below) {
        String call = "odds(" + lump + ", " + weather + ", " + c + ")";
        due(call, x.odds(lump, weather, c), 1);
        due(call + " above", x.part(0), above);
        due(call + " below", x.part(1), below);
    }

    /** Promise 29: PLAIN 3 3 1, CANNEL . 1 3 3, SPIT 3 . 3 . 1 . */
    private static void odds() {
        CoalWood x = Pits.kinds();
        odds(x, 0, 3, 0, 1, 1);
        odds(x, 0, 3, 3, 7, 10);
        odds(x, 0, 1, 3, 343, 1000);
        odds(x, 0, 1, 5, 1, 8);
        odds(x, 0, 1, 4, 27, 125);
        odds(x, 0, 1, 2, 64, 125);
        odds(x, 0, 1, 8, 1, 125);
        odds(x, 0, 1, 10, 0, 1);
        odds(x, 0, 1, 9, 1, 1000);
        odds(x, 0, 5, 0, 0, 1);
        odds(x, 4, 1, 5, 1, 4);
        odds(x, 4, 3, 1, 729, 1000);
        odds(x, 5, 1, 5, 1, 32);
        odds(x, 5, 3, 1, 9, 10);
        x.burn(0);
        odds(x, 0, 3, 1, 9, 10);
        due("odds(6, 0, 0)", x.odds(6, 0, 0), CoalWood.BAD);
        due("odds(-1, 0, 0)", x.odds(-1, 0, 0), CoalWood.BAD);
        due("odds(0, -1, 0)", x.odds(0, -1, 0), CoalWood.BAD);
        due("odds(0, 6, 0)", x.odds(0, 6, 0), CoalWood.BAD);
        due("odds(0, 0, -1)", x.odds(0, 0, -1), CoalWood.BAD);
        due("odds(0, 0, 11)", x.odds(0, 0, 11), CoalWood.BAD);
        due("THE FRACTION behind BAD", x.part(0), 9);
        due("status(0)", x.status(0), 6);
        CoalWood y = new CoalWood();
        y.layer(11, 2);
        y.lump(3, 6, 6);
        odds(y, 0, 2, 1, 31381059609L, 100000000000L);
        odds(y, 0, 2, 9, 1, 100000000000L);
    }

    /** Promise 30: by 1 there come 16838, 5758, 10113, 17515, 31051, so LUMPS 6, 6, 1, 3, 3. */
    private static void drawn() {
        CoalWood x = new CoalWood();
        due("drawn, no LUMPS", x.drawn(1, 60), 0);
        x.lump(0, 0, 1);
        x.price(0, 1);
        for (int k = 1; k < 8; k++) {
            x.lump(0, 0, 1);
        }
        due("drawn, each is worth 1", x.drawn(1, 60), 60);
        due("drawn of 0", x.drawn(999999, 0), 0);
        CoalWood y = new CoalWood();
        for (int w = 0; w < 6; w++) {
            y.layer(w, w);
            y.price(w, 1 << Math.min(w, 3));
        }
        for (int k = 0; k < 5; k++) {
            y.lump(0, k, 1);
        }
        int[] worths = {1, 2, 4, 8, 8};
        due("drawn(1, 2)", y.drawn(1, 2), 0);
        due("drawn(1, 5)", y.drawn(1, 5), 2 + 8 + 8);
        int[] seeds = {0, 1, 7, 134, 999999};
        for (int seed : seeds) {
            for (int n = 0; n <= 60; n += 5) {
                due("drawn(" + seed + ", " + n + ")", y.drawn(seed, n), draw(seed, n, worths));
            }
        }
        long before = y.digest();
        y.drawn(5, 60);
        due("drawn changes nothing", y.digest(), before);
        y.burn(0);
        due("drawn, BURNT or not", y.drawn(1, 60), draw(1, 60, worths));
        due("drawn(-1, 0)", y.drawn(-1, 0), CoalWood.BAD);
        due("drawn(1000000, 0)", y.drawn(1000000, 0), CoalWood.BAD);
        due("drawn(0, -1)", y.drawn(0, -1), CoalWood.BAD);
        due("drawn(0, 61)", y.drawn(0, 61), CoalWood.BAD);
        due("drawn(max, min)", y.drawn(MAX, MIN), CoalWood.BAD);
        due("status(0)", y.status(0), 5);
    }

    private static int draw(int seed, int n, int[] worths) {
        java.math.BigInteger x = java.math.BigInteger.valueOf(seed);
        java.math.BigInteger by = java.math.BigInteger.ONE.shiftLeft(31);
        int all = 0;
        for (int k = 0; k < n; k++) {
            x = x.multiply(java.math.BigInteger.valueOf(1103515245)).add(java.math.BigInteger.valueOf(12345)).mod(by);
            int lump = x.shiftRight(16).intValue() & 7;
            all += lump < worths.length ? worths[lump] : 0;
        }
        return all;
    }
}
