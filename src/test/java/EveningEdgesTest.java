/** Boundary cases of promises 15 to 20, most with the sentence of the document that names them. */
public final class EveningEdgesTest {
    private static final Check CHECK = new Check("EveningEdgesTest");
    private static final Evenings EVENINGS = new Evenings(CHECK);
    private static final int MAX = Integer.MAX_VALUE;
    private static final int MIN = Integer.MIN_VALUE;
    private static final int PLAIN = 0, BACK = 1, DAMP = 3, CANNEL = 4, SPIT = 5;

    private static void due(String call, long got, long want) {
        CHECK.due(call, got, want);
    }

    public static void main(String[] args) {
        eveningUpToFull();
        darkIsEmpty();
        fewestOfAnEmptyEvening();
        fewestWithoutLumps();
        fewestOfAll();
        fewestNotSoMany();
        fewestWrong();
        fewestJustTheEvening();
        fewestOfLongLumps();
        fewestWithoutSmoke();
        fewestFirstOfLikeOnes();
        fewestNotBurnt();
        rowsMost();
        rowsNone();
        bestPurse();
        bestWithoutLumps();
        bestLikeOnes();
        bestMost();
        cutByOne();
        cutJustSoLarge();
        cutIndex();
        cutWrong();
        cutFewestThenFirst();
        CHECK.end();
    }

    /** "THE EVENING is a row of 0 to 10 WEATHERS."; "how many it has. BAD; FULL: 10." */
    private static void eveningUpToFull() {
        CoalWood x = new CoalWood();
        for (int k = 1; k <= 10; k++) {
            due("evening, the " + k + "th", x.evening(k % 6), k);
        }
        long state = x.digest();
        for (int weather = 0; weather <= 5; weather++) {
            due("evening(" + weather + "), the 11th", x.evening(weather), CoalWood.FULL);
        }
        due("evening(6), the 11th", x.evening(6), CoalWood.BAD);
        due("the same", x.digest(), state);
        due("FULL", x.status(2), 6);
        due("BAD", x.status(0), 1);
    }

    /** "THE EVENING is empty: how many it had.": nothing but it changes. */
    private static void darkIsEmpty() {
        CoalWood x = Pits.brimful();
        CoalWood y = Pits.brimful();
        due("dark of 10", x.dark(), 10);
        due("dark of none", x.dark(), 0);
        for (int what = 0; what <= 8; what++) {
            due("dark: count(" + what + ")", x.count(what), what == 4 ? 0 : y.count(what));
        }
        for (int k = 0; k < 10; k++) {
            due("evening behind dark", x.evening(k % 6), k + 1);
        }
        due("the same evening again", x.digest(), y.digest());
        due("STATUS", x.status(0) + x.status(1) + x.status(2), 0);
    }

    /** "(An empty EVENING: no LUMP, one row.)" */
    private static void fewestOfAnEmptyEvening() {
        CoalWood x = Pits.kinds();
        EVENINGS.fewest("empty", x);
        due("empty: rows", x.rows(), 1);
        Evenings.tell(x, 3);
        EVENINGS.none("of one weather", x);
        x.dark();
        EVENINGS.fewest("empty again", x);
        due("empty again: rows", x.rows(), 1);
        for (int k = 0; k < 6; k++) {
            x.burn(k);
        }
        EVENINGS.fewest("empty, all BURNT", x);
        due("empty, all BURNT: rows", x.rows(), 1);
    }

    private static void fewestWithoutLumps() {
        CoalWood x = new CoalWood();
        EVENINGS.fewest("no lumps, an empty evening", x);
        due("no lumps, an empty evening: rows", x.rows(), 1);
        x.evening(0);
        EVENINGS.none("no lumps", x);
    }

    /** All eight LUMPS in one row, and the seven that are enough. */
    private static void fewestOfAll() {
        CoalWood x = new CoalWood();
        for (int l = 0; l < 6; l++) {
            x.layer(l, l);
        }
        for (int k = 0; k < 8; k++) {
            x.lump(PLAIN, (7 - k) % 6, 1);
        }
        Evenings.tell(x, 5, 4, 3, 2, 1, 0, 0, 1);
        EVENINGS.fewest("all eight", x, 2, 3, 4, 5, 0, 1, 7, 6);
        due("all eight: rows", x.rows(), 4);
        due("the 7-th", x.fewest(7), 6);
        due("the 8-th", x.fewest(8), -5);
        x.evening(2);
        EVENINGS.none("nine weathers of eight lumps", x);
        Evenings.tell(x, 5, 4, 3, 2, 1, 0, 0);
        EVENINGS.fewest("seven", x, 2, 3, 4, 5, 0, 1, 7);
        due("seven: rows", x.rows(), 4);
    }

    /** "-5: none; not so many.": it counts nowhere in STATUS and changes nothing. */
    private static void fewestNotSoMany() {
        int[] numbers = {2, 3, 7, 8, 10, 99, MAX - 1, MAX};
        for (int i : numbers) {
            String name = "fewest(" + i + ") of two";
            new Twins(CHECK, EveningEdgesTest::two).answers(name, x -> x.fewest(i), -5, Twins.NOWHERE).areAlike(name);
            name = "fewest(" + i + ") of none";
            new Twins(CHECK, Pits::middle).answers(name, x -> x.fewest(i), -5, Twins.NOWHERE).areAlike(name);
        }
        due("the last of two", two().fewest(1), 5);
    }

    private static CoalWood two() {
        CoalWood x = Pits.kinds();
        Evenings.tell(x, 3, 3, 1, 3, 3, 1);
        return x;
    }

    /** "BAD: -10.": ahead of -5, whatever THE EVENING is. */
    private static void fewestWrong() {
        int[] numbers = {-2, -3, -5, -10, MIN + 1, MIN};
        for (int i : numbers) {
            String name = "fewest(" + i + ")";
            new Twins(CHECK, EveningEdgesTest::two).answers(name, x -> x.fewest(i), -10, Twins.BAD).areAlike(name);
            new Twins(CHECK, CoalWood::new).answers(name, x -> x.fewest(i), -10, Twins.BAD).areAlike(name);
            new Twins(CHECK, Pits::brimful).answers(name, x -> x.fewest(i), -10, Twins.BAD).areAlike(name);
        }
    }

    /** "that SHOW, one behind the other, just THE EVENING": no weather more, none less. */
    private static void fewestJustTheEvening() {
        CoalWood x = new CoalWood();
        x.lump(PLAIN, 0, 3);
        for (int k = 1; k <= 10; k++) {
            x.evening(0);
            due("a lump of three for " + k, x.fewest(CoalWood.NONE), k == 3 ? 1 : -5);
            due("rows for " + k, x.rows(), k == 3 ? 1 : 0);
        }
        CoalWood y = new CoalWood();
        y.layer(2, 1);
        y.lump(PLAIN, 0, 3);
        Evenings.tell(y, 0, 0, 0);
        EVENINGS.none("unlike in the last", y);
        Evenings.tell(y, 1, 0, 1);
        EVENINGS.none("unlike in the first", y);
        Evenings.tell(y, 0, 1, 1);
        EVENINGS.none("unlike in the middle", y);
        Evenings.tell(y, 0, 0, 1);
        EVENINGS.fewest("alike", y, 0);
    }

    /** A DAMP LUMP of 5 shows 10 WEATHERS, as many as THE EVENING holds; one of 6 shows 12, too many for any. */
    private static void fewestOfLongLumps() {
        CoalWood x = new CoalWood();
        x.lump(DAMP, 0, 6);
        x.lump(DAMP, 0, 5);
        for (int k = 1; k <= 10; k++) {
            x.evening(0);
            due("for " + k, x.fewest(CoalWood.NONE), k == 10 ? 1 : -5);
        }
        EVENINGS.fewest("ten weathers", x, 1);
        x.burn(1);
        EVENINGS.none("the one of 12 alone", x);
        CoalWood y = new CoalWood();
        y.layer(4, 5);
        y.lump(DAMP, 0, 4);
        y.lump(PLAIN, 3, 2);
        Evenings.tell(y, 0, 0, 0, 0, 0, 0, 0, 0, 0, 5);
        EVENINGS.fewest("eight and two", y, 0, 1);
        Evenings.tell(y, 0, 0, 0, 0, 0, 0, 0, 0, 5, 0);
        EVENINGS.none("two do not fit behind eight", y);
    }

    /** "those of smoke left out": what smokes first or last joins what stands beside it. */
    private static void fewestWithoutSmoke() {
        CoalWood x = new CoalWood();
        x.layer(1, 1);
        x.lump(CANNEL, 0, 2);
        x.lump(SPIT, 0, 2);
        Evenings.tell(x, 1, 0);
        EVENINGS.fewest("CANNEL", x, 0);
        Evenings.tell(x, 0, 1);
        EVENINGS.fewest("SPIT", x, 1);
        Evenings.tell(x, 1, 0, 0, 1);
        EVENINGS.fewest("CANNEL, SPIT", x, 0, 1);
        Evenings.tell(x, 0, 1, 1, 0);
        EVENINGS.fewest("SPIT, CANNEL", x, 1, 0);
        due("SPIT, CANNEL: rows", x.rows(), 1);
    }

    /** "of fewest LUMPS; of like ones the first row" */
    private static void fewestFirstOfLikeOnes() {
        CoalWood x = new CoalWood();
        for (int k = 0; k < 8; k++) {
            x.lump(k % 6, 0, 1);
        }
        Evenings.tell(x, 0, 0, 0);
        EVENINGS.fewest("three: DAMP and another", x, 0, 3);
        due("three: rows", x.rows(), 7 * 2 + 7 * 6 * 5);
        x.burn(0);
        EVENINGS.fewest("three, 0 BURNT", x, 1, 3);
        x.burn(1);
        x.burn(2);
        EVENINGS.fewest("three, 0 to 2 BURNT", x, 3, 4);
        x.burn(3);
        EVENINGS.fewest("three, DAMP BURNT", x, 4, 5, 6);
        x.burn(7);
        EVENINGS.fewest("three are left", x, 4, 5, 6);
        due("three are left: rows", x.rows(), 6);
        x.burn(5);
        EVENINGS.none("two are left", x);
    }

    private static void fewestNotBurnt() {
        CoalWood x = Pits.kinds();
        Evenings.tell(x, 3, 3, 1);
        for (int k = 0; k < 6; k++) {
            if (k != 5) {
                x.burn(k);
            }
        }
        EVENINGS.fewest("the last that is not BURNT", x, 5);
        x.burn(5);
        EVENINGS.none("all BURNT", x);
        x.undo();
        EVENINGS.fewest("undone", x, 5);
    }

    /** "HOW MANY such rows there are, of any number of LUMPS": eight like ones for eight. */
    private static void rowsMost() {
        CoalWood x = new CoalWood();
        for (int k = 0; k < 8; k++) {
            x.lump(PLAIN, k, 1);
        }
        Evenings.tell(x, 0, 0, 0, 0, 0, 0, 0, 0);
        due("eight of eight", x.rows(), 40320);
        EVENINGS.fewest("eight of eight", x, 0, 1, 2, 3, 4, 5, 6, 7);
        CoalWood y = new CoalWood();
        for (int k = 0; k < 8; k++) {
            y.lump(PLAIN, 0, 1 + k / 4);
        }
        Evenings.tell(y, 0, 0, 0, 0, 0, 0, 0, 0, 0, 0);
        due("ten by ones and twos", y.rows(), 6 * 720 + 4 * 5040);
        EVENINGS.fewest("ten by ones and twos", y, 0, 1, 4, 5, 6, 7);
    }

    private static void rowsNone() {
        CoalWood x = new CoalWood();
        for (int k = 0; k < 8; k++) {
            x.lump(PLAIN, k, 1);
        }
        Evenings.tell(x, 0, 0, 0, 0, 0, 0, 0, 0, 0);
        EVENINGS.none("nine of eight", x);
        Evenings.tell(x, 0, 0, 0, 0, 0, 0, 0, 1);
        EVENINGS.none("the last is unlike", x);
        due("-5 counts nowhere", x.status(0) + x.status(1) + x.status(2), 0);
    }

    /** "a PURSE (0 .. 99)"; "that COST (twice their SIZE each) together no more than it" */
    private static void bestPurse() {
        for (int n = 1; n <= 6; n++) {
            CoalWood x = new CoalWood();
            x.lump(BACK, 0, n);
            due("size " + n + ", one too little", x.best(2 * n - 1, 0), 0);
            due("size " + n + ", one too little: how much", x.best(2 * n - 1, 1), 0);
            due("size " + n + ", just enough", x.best(2 * n, 0), 1);
            due("size " + n + ", just enough: how much", x.best(2 * n, 1), n);
            due("size " + n + ", 99", x.best(99, 0), 1);
            due("size " + n + ", 0", x.best(0, 0), 0);
        }
        CoalWood x = new CoalWood();
        x.lump(PLAIN, 0, 1);
        x.lump(PLAIN, 0, 2);
        x.lump(PLAIN, 0, 4);
        for (int purse = 0; purse <= 99; purse++) {
            due("1, 2, 4 for " + purse, x.best(purse, 0), Math.min(7, purse / 2));
            due("1, 2, 4 for " + purse + ": how much", x.best(purse, 1), Math.min(7, purse / 2));
        }
    }

    private static void bestWithoutLumps() {
        CoalWood x = new CoalWood();
        due("no lumps", x.best(99, 0), 0);
        due("no lumps: how much", x.best(99, 1), 0);
        for (int k = 0; k < 8; k++) {
            x.lump(PLAIN, 0, 1);
            x.burn(k);
        }
        due("all BURNT", x.best(99, 0), 0);
        due("all BURNT: how much", x.best(99, 1), 0);
        x.undo();
        due("all but the last BURNT", x.best(99, 0), 128);
        due("all but the last BURNT: how much", x.best(99, 1), 1);
        due("just its cost", x.best(2, 0), 128);
        due("less than its cost", x.best(1, 0), 0);
    }

    /** "that are WORTH most together; of like ones the least bits" */
    private static void bestLikeOnes() {
        CoalWood x = new CoalWood();
        for (int k = 0; k < 8; k++) {
            x.lump(PLAIN, k, 1);
        }
        for (int purse = 0; purse <= 20; purse++) {
            due("eight like ones for " + purse, x.best(purse, 0), (1 << Math.min(8, purse / 2)) - 1);
        }
        x.burn(0);
        x.burn(2);
        due("0 and 2 BURNT", x.best(4, 0), 2 + 8);
        due("0 and 2 BURNT, all", x.best(99, 0), 255 - 5);
        x.layer(7, 1);
        x.price(1, 0);
        due("one that is worth nothing is left", x.best(99, 0), 127 - 5);
        x.price(1, 2);
        due("one that is worth more", x.best(2, 0), 128);
        due("and one beside it", x.best(4, 0), 128 + 2);
        CoalWood y = new CoalWood();
        y.lump(PLAIN, 0, 2);
        y.lump(PLAIN, 0, 2);
        y.lump(PLAIN, 0, 4);
        due("two of 2 ahead of one of 4", y.best(8, 0), 3);
        CoalWood z = new CoalWood();
        z.lump(PLAIN, 0, 4);
        z.lump(PLAIN, 0, 2);
        z.lump(PLAIN, 0, 2);
        due("one of 4 ahead of two of 2", z.best(8, 0), 1);
    }

    /** All eight of SIZE 6 cost 96: 99 is enough, 95 is not. */
    private static void bestMost() {
        CoalWood x = new CoalWood();
        x.price(0, 9);
        for (int k = 0; k < 8; k++) {
            x.lump(DAMP, 0, 6);
        }
        due("99", x.best(99, 0), 255);
        due("99: how much", x.best(99, 1), 864);
        due("96", x.best(96, 0), 255);
        due("95", x.best(95, 0), 127);
        due("95: how much", x.best(95, 1), 756);
        due("12", x.best(12, 0), 1);
        due("11", x.best(11, 0), 0);
    }

    /** "CUT of SIZE c (1 .. 6)": by 1 there is one way alone, of twelve. */
    private static void cutByOne() {
        CoalWood x = new CoalWood();
        int[] ones = {1, 1, 1, 1, 1, 1, 1, 1, 1, 1, 1, 1};
        EVENINGS.cut("one afternoon", x, 1, 0, ones);
        x.layer(0, 5);
        EVENINGS.cut("one of 1 at the beginning", x, 1, 1, ones);
        x.layer(11, 5);
        EVENINGS.cut("and one at the end", x, 1, 2, ones);
        for (int l = 0; l < 12; l += 2) {
            x.layer(l, 1);
            x.layer(l + 1, 2);
        }
        EVENINGS.cut("twelve afternoons", x, 1, 12, ones);
        EVENINGS.cut("twelve afternoons by 6", x, 6, 12, 6, 6);
    }

    /** "An AFTERNOON: LAYERS side by side of one WEATHER, as many as there are.": of just c it can lie whole. */
    private static void cutJustSoLarge() {
        for (int c = 1; c <= 6; c++) {
            for (int length = 1; length <= 12; length++) {
                CoalWood first = new CoalWood();
                CoalWood last = new CoalWood();
                for (int l = 0; l < length; l++) {
                    first.layer(l, 1);
                    last.layer(11 - l, 1);
                }
                int rest = 12 - length;
                int whole = (length <= c ? 1 : 0) + (rest > 0 && rest <= c ? 1 : 0);
                due("the first " + length + " by " + c, first.cut(c, -2), whole);
                due("the last " + length + " by " + c, last.cut(c, -2), whole);
            }
        }
        CoalWood x = new CoalWood();
        for (int l = 3; l < 9; l++) {
            x.layer(l, 4);
        }
        EVENINGS.cut("six in the middle by 6", x, 6, 3, 3, 6, 3);
        EVENINGS.cut("six in the middle by 5", x, 5, 2, 3, 4, 5);
        x.layer(9, 4);
        EVENINGS.cut("seven in the middle by 6", x, 6, 2, 6, 6);
    }

    /** "the SIZE of the i-th"; "-5: not so many." */
    private static void cutIndex() {
        for (int c = 1; c <= 6; c++) {
            int size = c;
            int lumps = (12 + c - 1) / c;
            int sum = 0;
            CoalWood x = new CoalWood();
            for (int i = 0; i < lumps; i++) {
                int cut = x.cut(c, i);
                sum += cut;
                CHECK.that("by " + c + ", the " + i + "-th: " + cut, cut >= 1 && cut <= c);
            }
            due("by " + c + ", all together", sum, 12);
            int[] numbers = {lumps, lumps + 1, 12, 13, MAX - 1, MAX};
            for (int i : numbers) {
                String name = "cut(" + c + ", " + i + ")";
                new Twins(CHECK, CoalWood::new).answers(name, y -> y.cut(size, i), -5, Twins.NOWHERE).areAlike(name);
            }
        }
        CoalWood y = Pits.brimful();
        due("LUMPS there are count for nothing", y.cut(6, -2), 7);
    }

    /** "BAD: -10." */
    private static void cutWrong() {
        int[][] numbers = {
            {0, 0}, {7, 0}, {-1, -1}, {MIN, 0}, {MAX, 0}, {1, -3}, {6, -3}, {1, MIN}, {6, MIN}, {0, -2}, {7, -2},
            {0, MAX}, {7, MAX}, {MIN, MIN}, {MAX, MIN}
        };
        for (int[] pair : numbers) {
            String name = "cut(" + pair[0] + ", " + pair[1] + ")";
            new Twins(CHECK, Pits::middle).answers(name, x -> x.cut(pair[0], pair[1]), -10, Twins.BAD).areAlike(name);
        }
    }

    /** "The most AFTERNOONS ..; the fewest LUMPS by which so many do; .. the first such row (rising)" */
    private static void cutFewestThenFirst() {
        CoalWood x = new CoalWood();
        EVENINGS.cut("12 by 2", x, 2, 0, 2, 2, 2, 2, 2, 2);
        EVENINGS.cut("12 by 3", x, 3, 0, 3, 3, 3, 3);
        EVENINGS.cut("12 by 4", x, 4, 0, 4, 4, 4);
        EVENINGS.cut("12 by 5", x, 5, 0, 2, 5, 5);
        EVENINGS.cut("12 by 6", x, 6, 0, 6, 6);
        x.layer(0, 1);
        EVENINGS.cut("1 and 11 by 5", x, 5, 1, 2, 5, 5);
        x.layer(1, 1);
        x.layer(2, 1);
        EVENINGS.cut("3 and 9 by 5", x, 5, 1, 3, 4, 5);
        x.layer(3, 1);
        EVENINGS.cut("4 and 8 by 3", x, 3, 0, 3, 3, 3, 3);
        EVENINGS.cut("4 and 8 by 4", x, 4, 1, 4, 4, 4);
        EVENINGS.cut("4 and 8 by 5", x, 5, 1, 4, 3, 5);
        for (int l = 0; l < 12; l++) {
            x.layer(l, l % 4 < 2 ? 1 : 2);
        }
        EVENINGS.cut("twos by 3", x, 3, 6, 2, 2, 2, 2, 2, 2);
        EVENINGS.cut("twos by 4", x, 4, 6, 4, 4, 4);
        EVENINGS.cut("twos by 5", x, 5, 6, 4, 4, 4);
    }
}
