/** Promises 9 to 14: fires. */
public final class FiresTest {
    private static final Check CHECK = new Check("FiresTest");
    private static final int MAX = Integer.MAX_VALUE;
    private static final int MIN = Integer.MIN_VALUE;

    private static void due(String call, long got, long want) {
        CHECK.due(call, got, want);
    }

    public static void main(String[] args) {
        burn();
        undo();
        undoEnds();
        undoIsPaidAsThen();
        of();
        shows();
        clash();
        agree();
        CHECK.end();
    }

    /** Promise 9. */
    private static void burn() {
        CoalWood x = Pits.kinds();
        due("burn(6)", x.burn(6), CoalWood.BAD);
        due("burn(-1)", x.burn(-1), CoalWood.BAD);
        due("burn(max)", x.burn(MAX), CoalWood.BAD);
        int[] paid = {5, 5, 4, 10, 5, 5};
        int[] steps = {3, 3, 2, 6, 4, 6};
        int money = 0;
        int clock = 0;
        for (int k = 0; k < 6; k++) {
            due("burn(" + k + ")", x.burn(k), paid[k]);
            money += paid[k];
            clock += steps[k];
            due("BURNT", x.count(1), (2 << k) - 1);
            due("MONEY", x.count(2), money);
            due("CLOCK", x.count(3), clock);
            due("that may be undone", x.count(7), k + 1);
        }
        due("burn(3) again", x.burn(3), CoalWood.NO);
        due("MONEY then", x.count(2), money);
        due("status(0)", x.status(0), 3);
        due("status(1)", x.status(1), 1);
    }

    /** Promise 10. */
    private static void undo() {
        CoalWood x = Pits.kinds();
        due("undo, nothing burnt", x.undo(), CoalWood.NO);
        x.burn(3);
        x.burn(0);
        x.burn(2);
        due("undo of 2", x.undo(), 15);
        due("BURNT", x.count(1), 9);
        due("CLOCK", x.count(3), 9);
        due("undo of 0", x.undo(), 10);
        due("that may be undone", x.count(7), 1);
        due("burn(0) again", x.burn(0), 5);
        due("undo of 0 again", x.undo(), 10);
        due("undo of 3", x.undo(), 0);
        due("BURNT then", x.count(1), 0);
        due("CLOCK then", x.count(3), 0);
        due("undo, none left", x.undo(), CoalWood.NO);
        due("status(1)", x.status(1), 2);
    }

    /** Promise 10: a lump that comes ends it, a refused one does not; all eight may be undone. */
    private static void undoEnds() {
        CoalWood x = Pits.kinds();
        x.burn(1);
        due("lump, BAD", x.lump(0, 0, 9), CoalWood.BAD);
        due("that may be undone still", x.count(7), 1);
        x.lump(0, 0, 1);
        due("none may be undone", x.count(7), 0);
        due("undo", x.undo(), CoalWood.NO);
        due("BURNT stays", x.count(1), 2);
        due("MONEY stays", x.count(2), 5);
        x.lump(0, 0, 1);
        x.burn(7);
        due("lump, FULL", x.lump(0, 0, 1), CoalWood.FULL);
        due("undo behind FULL", x.undo(), 5);
        CoalWood y = Pits.kinds();
        y.lump(0, 0, 1);
        y.lump(0, 0, 1);
        for (int k = 0; k < 8; k++) {
            y.burn(7 - k);
        }
        due("eight may be undone", y.count(7), 8);
        for (int k = 0; k < 8; k++) {
            y.undo();
        }
        due("MONEY behind eight", y.count(2), 0);
        due("CLOCK behind eight", y.count(3), 0);
        due("BURNT behind eight", y.count(1), 0);
        due("a ninth", y.undo(), CoalWood.NO);
    }

    /** Promise 10: what was paid goes back, whatever prices and weathers are by now. */
    private static void undoIsPaidAsThen() {
        CoalWood x = Pits.kinds();
        x.burn(0);
        x.burn(1);
        x.price(3, 9);
        x.layer(5, 4);
        due("MONEY", x.count(2), 10);
        due("undo", x.undo(), 5);
        due("burn anew", x.burn(1), 19);
        due("undo anew", x.undo(), 5);
        due("undo to the first", x.undo(), 0);
        due("layer stays", x.layer(5, 4), 4);
    }

    /** Promise 11. */
    private static void of() {
        CoalWood x = Pits.kinds();
        x.burn(4);
        int[] steps = {3, 3, 2, 6, 4, 6};
        int[] weathers = {3, 3, 2, 6, 3, 3};
        int[] worth = {5, 5, 4, 10, 5, 5};
        for (int k = 0; k < 6; k++) {
            due("of KIND " + k, x.of(k, 0), k);
            due("of LAYER " + k, x.of(k, 1), 3);
            due("of SIZE " + k, x.of(k, 2), 3);
            due("of BURNT " + k, x.of(k, 3), k == 4 ? 1 : 0);
            due("of STEPS " + k, x.of(k, 4), steps[k]);
            due("of WEATHERS " + k, x.of(k, 5), weathers[k]);
            due("of WORTH " + k, x.of(k, 6), worth[k]);
        }
        due("of(0, 7)", x.of(0, 7), CoalWood.BAD);
        due("of(0, -1)", x.of(0, -1), CoalWood.BAD);
        due("of(6, 0)", x.of(6, 0), CoalWood.BAD);
        due("of(-1, 0)", x.of(-1, 0), CoalWood.BAD);
        due("of(max, min)", x.of(MAX, MIN), CoalWood.BAD);
        due("status(0)", x.status(0), 5);
        CoalWood y = new CoalWood();
        y.lump(2, 0, 1);
        y.lump(2, 0, 4);
        y.lump(2, 0, 5);
        due("SLACK of 1", y.of(0, 4), 1);
        due("SLACK of 4", y.of(1, 4), 2);
        due("SLACK of 5", y.of(2, 4), 3);
        y.price(0, 9);
        y.lump(3, 6, 6);
        due("DAMP of 6: STEPS", y.of(3, 4), 12);
        due("DAMP of 6: WEATHERS", y.of(3, 5), 12);
        due("DAMP of 6: WORTH", y.of(3, 6), 108);
    }

    /** Promise 12: each row says what a kind of size 3 from layer 3 on shows. */
    private static void shows() {
        CoalWood x = Pits.kinds();
        int[][] layers = {
            {3, 4, 5, -1, -1, -1, -1, -1},
            {5, 4, 3, -1, -1, -1, -1, -1},
            {3, 5, -1, -1, -1, -1, -1, -1},
            {3, 3, 4, 4, 5, 5, -1, -1},
            {-1, 5, 4, 3, -1, -1, -1, -1},
            {3, -1, 4, -1, 5, -1, -1, -1},
        };
        for (int k = 0; k < 6; k++) {
            for (int t = 0; t <= 20; t++) {
                due("shows(" + k + ", " + t + ")", x.shows(k, t), t < 8 ? layers[k][t] : CoalWood.NONE);
            }
        }
        x.burn(0);
        due("shows, BURNT", x.shows(0, 0), 3);
        due("status(0) by NONE", x.status(0), 0);
        due("shows(0, 21)", x.shows(0, 21), CoalWood.BAD);
        due("shows(0, -1)", x.shows(0, -1), CoalWood.BAD);
        due("shows(6, 0)", x.shows(6, 0), CoalWood.BAD);
        due("shows(-1, 0)", x.shows(-1, 0), CoalWood.BAD);
        due("shows(max, min)", x.shows(MAX, MIN), CoalWood.BAD);
        due("status(0)", x.status(0), 5);
    }

    /** Promise 13: PLAIN 3 3 1, BACK 1 3 3, DAMP 3 3 3 3 1 1, CANNEL . 1 3 3, SPIT 3 . 3 . 1 . */
    private static void clash() {
        CoalWood x = Pits.kinds();
        due("clash(0, 1, 0)", x.clash(0, 1, 0), 0);
        due("clash(0, 1, 1)", x.clash(0, 1, 1), 1);
        due("clash(0, 1, 2)", x.clash(0, 1, 2), CoalWood.NONE);
        due("clash(1, 0, 1)", x.clash(1, 0, 1), CoalWood.NONE);
        due("clash(0, 3, 0)", x.clash(0, 3, 0), 2);
        due("clash(3, 0, 0)", x.clash(3, 0, 0), 2);
        due("clash(3, 0, 1)", x.clash(3, 0, 1), 3);
        due("clash(3, 0, 2)", x.clash(3, 0, 2), CoalWood.NONE);
        due("clash(3, 0, 3)", x.clash(3, 0, 3), 4);
        due("clash(0, 4, 0)", x.clash(0, 4, 0), 1);
        due("clash(5, 4, 1)", x.clash(5, 4, 1), 2);
        due("clash(5, 4, 0)", x.clash(5, 4, 0), CoalWood.NONE);
        due("clash(3, 5, 5)", x.clash(3, 5, 5), 5);
        due("clash(3, 5, 20)", x.clash(3, 5, 20), CoalWood.NONE);
        due("status(0) by NONE", x.status(0), 0);
        due("clash(0, 0, 0)", x.clash(0, 0, 0), CoalWood.BAD);
        due("clash(0, 1, -1)", x.clash(0, 1, -1), CoalWood.BAD);
        due("clash(0, 1, 21)", x.clash(0, 1, 21), CoalWood.BAD);
        due("clash(0, 6, 0)", x.clash(0, 6, 0), CoalWood.BAD);
        due("clash(6, 0, 0)", x.clash(6, 0, 0), CoalWood.BAD);
        due("clash(-1, 0, 0)", x.clash(-1, 0, 0), CoalWood.BAD);
        due("clash(0, -1, 0)", x.clash(0, -1, 0), CoalWood.BAD);
        due("clash(min, max, min)", x.clash(MIN, MAX, MIN), CoalWood.BAD);
        due("status(0)", x.status(0), 8);
    }

    /** Promise 14. */
    private static void agree() {
        CoalWood x = Pits.kinds();
        int[] bits = {0, 0, 16 + 32, 32, 4 + 32, 4 + 8 + 16};
        for (int k = 0; k < 6; k++) {
            due("agree(" + k + ")", x.agree(k), bits[k]);
        }
        x.burn(4);
        due("agree(5), 4 BURNT", x.agree(5), 28);
        due("agree(6)", x.agree(6), CoalWood.BAD);
        due("agree(-1)", x.agree(-1), CoalWood.BAD);
        due("agree(max)", x.agree(MAX), CoalWood.BAD);
        due("status(0)", x.status(0), 3);
        CoalWood y = new CoalWood();
        for (int k = 0; k < 8; k++) {
            y.lump(k % 6, k, 3);
        }
        due("agree, all of one weather", y.agree(7), 127);
        due("agree, all of one weather", y.agree(2), 251);
        CoalWood z = new CoalWood();
        z.lump(3, 5, 2);
        due("agree, alone", z.agree(0), 0);
    }
}
