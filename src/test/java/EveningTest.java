/** Promises 15 to 20: an evening. */
public final class EveningTest {
    private static final Check CHECK = new Check("EveningTest");
    private static final Evenings EVENINGS = new Evenings(CHECK);
    private static final int MAX = Integer.MAX_VALUE;
    private static final int MIN = Integer.MIN_VALUE;

    private static void due(String call, long got, long want) {
        CHECK.due(call, got, want);
    }

    public static void main(String[] args) {
        eveningAndDark();
        fewestIsExact();
        fewestFirstRow();
        fewestBurnt();
        fewestWrong();
        rows();
        best();
        bestLeastBits();
        cut();
        cutTies();
        cutWrong();
        CHECK.end();
    }

    /** Promises 15 and 16. */
    private static void eveningAndDark() {
        CoalWood x = new CoalWood();
        due("dark, empty", x.dark(), 0);
        due("evening(-1)", x.evening(-1), CoalWood.BAD);
        due("evening(6)", x.evening(6), CoalWood.BAD);
        for (int k = 1; k <= 10; k++) {
            due("evening, the " + k + "th", x.evening(k % 6), k);
        }
        due("evening, the 11th", x.evening(0), CoalWood.FULL);
        due("evening, BAD ahead of FULL", x.evening(MIN), CoalWood.BAD);
        due("count(4)", x.count(4), 10);
        due("status(0)", x.status(0), 3);
        due("status(2)", x.status(2), 1);
        due("dark of 10", x.dark(), 10);
        due("count(4) then", x.count(4), 0);
        due("evening then", x.evening(5), 1);
    }

    /** Promise 17: PLAIN 3 3 1, BACK 1 3 3, SLACK 3 1, DAMP 3 3 3 3 1 1, CANNEL 1 3 3, SPIT 3 3 1. */
    private static void fewestIsExact() {
        CoalWood x = Pits.kinds();
        EVENINGS.fewest("an empty evening", x);
        due("an empty evening: rows", x.rows(), 1);
        Evenings.tell(x, 3, 3, 1);
        EVENINGS.fewest("one lump", x, 0);
        Evenings.tell(x, 3, 3, 1, 3, 3, 1);
        EVENINGS.fewest("smoke is left out", x, 0, 5);
        due("smoke is left out: rows", x.rows(), 2);
        Evenings.tell(x, 3, 3, 3, 3, 1, 1);
        EVENINGS.fewest("all of a lump", x, 3);
        Evenings.tell(x, 3, 1, 1, 3, 3);
        EVENINGS.fewest("the first of like rows", x, 2, 1);
        due("like rows", x.rows(), 2);
        Evenings.tell(x, 3, 3, 1, 1, 3, 3, 1, 3, 3);
        EVENINGS.fewest("three lumps", x, 0, 1, 4);
        Evenings.tell(x, 3, 3);
        due("a part of a lump is none", x.fewest(CoalWood.NONE), -5);
        due("none: the 0-th", x.fewest(0), -5);
        due("none: rows", x.rows(), 0);
        Evenings.tell(x, 3, 1, 3, 1);
        due("each once at most", x.fewest(CoalWood.NONE), -5);
        due("-5 is not in STATUS", x.status(0) + x.status(1) + x.status(2), 0);
    }

    /** Promise 17: fewest goes ahead of first, and the first row is so by its first unlike lump. */
    private static void fewestFirstRow() {
        CoalWood x = new CoalWood();
        x.layer(1, 1);
        x.lump(0, 0, 1);
        x.lump(0, 1, 1);
        x.lump(0, 0, 2);
        Evenings.tell(x, 0, 1);
        EVENINGS.fewest("one lump ahead of two", x, 2);
        due("rows of any number", x.rows(), 2);
        Evenings.tell(x, 0, 1, 0, 1);
        EVENINGS.fewest("of three, the first", x, 0, 1, 2);
        due("two rows of three", x.rows(), 2);
        CoalWood z = new CoalWood();
        z.layer(1, 1);
        z.lump(0, 0, 2);
        z.lump(0, 0, 1);
        z.lump(0, 1, 1);
        Evenings.tell(z, 0, 1);
        EVENINGS.fewest("one lump, two come later", z, 0);
        CoalWood y = new CoalWood();
        y.layer(1, 1);
        y.lump(0, 0, 2);
        y.lump(0, 2, 1);
        y.lump(1, 0, 2);
        y.lump(0, 0, 1);
        Evenings.tell(y, 0, 1, 0);
        EVENINGS.fewest("the first row", y, 0, 1);
        Evenings.tell(y, 0, 0, 1, 1, 0);
        EVENINGS.fewest("the least one comes first though a greater could", y, 1, 0, 2);
    }

    private static void fewestBurnt() {
        CoalWood x = Pits.kinds();
        Evenings.tell(x, 3, 3, 1);
        x.burn(0);
        EVENINGS.fewest("0 is BURNT", x, 5);
        x.burn(5);
        due("0 and 5 are BURNT", x.fewest(CoalWood.NONE), -5);
        due("0 and 5 are BURNT: rows", x.rows(), 0);
        x.undo();
        EVENINGS.fewest("5 is there again", x, 5);
    }

    private static void fewestWrong() {
        CoalWood x = Pits.kinds();
        due("fewest(-2)", x.fewest(-2), -10);
        due("fewest(min)", x.fewest(MIN), -10);
        due("status(0)", x.status(0), 2);
        Evenings.tell(x, 4);
        due("BAD ahead of none", x.fewest(-2), -10);
        due("status(0) then", x.status(0), 3);
    }

    /** Promise 18. */
    private static void rows() {
        CoalWood x = new CoalWood();
        for (int k = 0; k < 8; k++) {
            x.lump(0, k, 1);
        }
        int[] rows = {1, 8, 56, 336, 1680, 6720, 20160, 40320, 40320, 0, 0};
        due("rows of none", x.rows(), rows[0]);
        for (int k = 1; k <= 10; k++) {
            x.evening(0);
            due("rows of " + k, x.rows(), rows[k]);
        }
        CoalWood y = new CoalWood();
        y.lump(0, 0, 1);
        y.lump(0, 0, 2);
        y.lump(0, 0, 3);
        y.lump(2, 0, 6);
        Evenings.tell(y, 0, 0, 0);
        due("rows of any number of lumps", y.rows(), 4);
        Evenings.tell(y, 0, 0, 0, 0, 0, 0);
        due("1 2 3 in six rows, 1 2 and SLACK in six, 3 and SLACK in two", y.rows(), 14);
        EVENINGS.fewest("of fewest", y, 2, 3);
    }

    /** Promise 19. */
    private static void best() {
        CoalWood x = Pits.kinds();
        due("best(0, 0)", x.best(0, 0), 0);
        due("best(0, 1)", x.best(0, 1), 0);
        due("best(5, 0)", x.best(5, 0), 0);
        due("best(5, 1)", x.best(5, 1), 0);
        due("best(6, 0)", x.best(6, 0), 8);
        due("best(6, 1)", x.best(6, 1), 10);
        due("best(12, 0)", x.best(12, 0), 9);
        due("best(12, 1)", x.best(12, 1), 15);
        due("best(35, 0)", x.best(35, 0), 59);
        due("best(35, 1)", x.best(35, 1), 30);
        due("best(99, 0)", x.best(99, 0), 63);
        due("best(99, 1)", x.best(99, 1), 34);
        x.burn(3);
        due("best(6, 0), 3 BURNT", x.best(6, 0), 1);
        due("best(6, 1), 3 BURNT", x.best(6, 1), 5);
        due("best(99, 0), 3 BURNT", x.best(99, 0), 55);
        due("best(-1, 0)", x.best(-1, 0), CoalWood.BAD);
        due("best(100, 0)", x.best(100, 0), CoalWood.BAD);
        due("best(0, -1)", x.best(0, -1), CoalWood.BAD);
        due("best(0, 2)", x.best(0, 2), CoalWood.BAD);
        due("best(min, max)", x.best(MIN, MAX), CoalWood.BAD);
        due("status(0)", x.status(0), 5);
    }

    /** Promise 19: of like ones the least bits, though they be more lumps; what is worth nothing is left. */
    private static void bestLeastBits() {
        CoalWood x = new CoalWood();
        x.lump(0, 0, 1);
        x.lump(0, 0, 2);
        x.lump(0, 0, 3);
        due("two lumps of lesser bits", x.best(6, 0), 3);
        due("as much", x.best(6, 1), 3);
        x.price(0, 0);
        due("worth nothing", x.best(99, 0), 0);
        due("worth nothing: how much", x.best(99, 1), 0);
        x.price(0, 9);
        x.lump(3, 0, 3);
        due("not by worth for its cost alone", x.best(8, 0), 9);
        due("how much", x.best(8, 1), 63);
        due("the dearest alone", x.best(7, 0), 8);
        CoalWood y = new CoalWood();
        for (int k = 0; k < 8; k++) {
            y.lump(0, 0, 6);
        }
        due("eight lumps of 12", y.best(95, 0), 127);
        due("eight lumps of 12", y.best(96, 0), 255);
        due("how much", y.best(96, 1), 48);
    }

    /** Promise 20: 1 1 2 3 3 1 2 0 0 0 0 5. */
    private static void cut() {
        CoalWood x = Pits.seam();
        EVENINGS.cut("seam by 1", x, 1, 4, 1, 1, 1, 1, 1, 1, 1, 1, 1, 1, 1, 1);
        EVENINGS.cut("seam by 2", x, 2, 6, 2, 1, 2, 1, 2, 2, 2);
        EVENINGS.cut("seam by 3", x, 3, 6, 3, 3, 3, 3);
        EVENINGS.cut("seam by 4", x, 4, 7, 3, 4, 4, 1);
        EVENINGS.cut("seam by 5", x, 5, 7, 2, 5, 5);
        EVENINGS.cut("seam by 6", x, 6, 7, 6, 6);
    }

    private static void cutTies() {
        CoalWood x = new CoalWood();
        EVENINGS.cut("one afternoon by 1", x, 1, 0, 1, 1, 1, 1, 1, 1, 1, 1, 1, 1, 1, 1);
        EVENINGS.cut("one afternoon by 5", x, 5, 0, 2, 5, 5);
        EVENINGS.cut("one afternoon by 6", x, 6, 0, 6, 6);
        x.layer(0, 1);
        EVENINGS.cut("fewest lumps only as far as afternoons stay whole", x, 6, 1, 6, 6);
        x.layer(11, 1);
        EVENINGS.cut("an afternoon at each end", x, 5, 2, 2, 5, 5);
        for (int l = 0; l < 12; l++) {
            x.layer(l, l / 3);
        }
        EVENINGS.cut("afternoons of 3 by 2", x, 2, 0, 2, 2, 2, 2, 2, 2);
        EVENINGS.cut("afternoons of 3 by 3", x, 3, 4, 3, 3, 3, 3);
        EVENINGS.cut("afternoons of 3 by 4", x, 4, 4, 3, 3, 3, 3);
        EVENINGS.cut("afternoons of 3 by 5", x, 5, 4, 3, 3, 3, 3);
        EVENINGS.cut("afternoons of 3 by 6", x, 6, 4, 6, 6);
        for (int l = 0; l < 12; l++) {
            x.layer(l, l % 2);
        }
        EVENINGS.cut("afternoons of 1 by 5", x, 5, 12, 2, 5, 5);
    }

    private static void cutWrong() {
        CoalWood x = Pits.seam();
        due("cut(0, 0)", x.cut(0, 0), -10);
        due("cut(7, 0)", x.cut(7, 0), -10);
        due("cut(1, -3)", x.cut(1, -3), -10);
        due("cut(min, min)", x.cut(MIN, MIN), -10);
        due("cut(max, max)", x.cut(MAX, MAX), -10);
        due("status(0)", x.status(0), 5);
        due("-5 is not in STATUS", x.cut(1, 12), -5);
        due("status(0) then", x.status(0), 5);
    }
}
