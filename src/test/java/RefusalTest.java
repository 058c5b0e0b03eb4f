/** In which order calls are refused, and that a refused one changes nothing but STATUS. */
public final class RefusalTest {
    private static final Check CHECK = new Check("RefusalTest");
    private static final int CALLS = 19;
    /** An object answers 512 calls; what brings it to its state and looks at it is among them. */
    private static final int CALLS_OF_ONE = 250;
    private static final int[] NUMBERS = {
        Integer.MIN_VALUE, -1000, -11, -10, -3, -2, -1, 0, 1, 5, 6, 7, 8, 9, 10, 11, 12, 13, 20, 21,
        60, 61, 99, 100, 127, 128, 999999, 1000000, Integer.MAX_VALUE
    };

    public static void main(String[] args) {
        for (int state = 0; state < 4; state++) {
            for (int call = 0; call < CALLS; call++) {
                tryAll(state, call);
            }
        }
        order();
        CHECK.end();
    }

    private static long call(CoalWood x, int call, int a, int b, int c) {
        switch (call) {
            case 0: return x.layer(a, b);
            case 1: return x.price(a, b);
            case 2: return x.lump(a, b, c);
            case 3: return x.type(a);
            case 4: return x.burn(a);
            case 5: return x.of(a, b);
            case 6: return x.shows(a, b);
            case 7: return x.clash(a, b, c);
            case 8: return x.agree(a);
            case 9: return x.evening(a);
            case 10: return x.best(a, b);
            case 11: return x.seen(a, b, c);
            case 12: return x.glimpse(a, b, c);
            case 13: return x.places(a);
            case 14: return x.odds(a, b, c);
            case 15: return x.drawn(a, b);
            case 16: return x.part(a);
            case 17: return x.count(a);
            default: return x.from(a);
        }
    }

    private static boolean isRight(int call, int a, int b, int c, int lumps) {
        boolean lump = a >= 0 && a < lumps;
        switch (call) {
            case 0: return in(a, 11) && in(b, 5);
            case 1: return in(a, 5) && in(b, 9);
            case 2: return in(a, 5) && in(b, 11) && c >= 1 && c <= 6 && b + c <= 12;
            case 3: return in(a, 127);
            case 4: return lump;
            case 5: return lump && in(b, 6);
            case 6: return lump && in(b, 20);
            case 7: return lump && b >= 0 && b < lumps && a != b && in(c, 20);
            case 8: return lump;
            case 9: return in(a, 5);
            case 10: return in(a, 99) && in(b, 1);
            case 11: return a >= 1 && a <= 6 && in(b, 12) && c >= -1 && c <= 5;
            case 12: return in(a, 11) && in(b, 8) && in(c, 1);
            case 13: return in(a, 11);
            case 14: return lump && in(b, 5) && in(c, 10);
            case 15: return in(a, 999999) && in(b, 60);
            case 16: return in(a, 1);
            case 17: return in(a, 8);
            default: return in(a, 1);
        }
    }

    private static boolean in(int x, int most) {
        return x >= 0 && x <= most;
    }

    private static CoalWood in(int state) {
        switch (state) {
            case 0: return new CoalWood();
            case 1: return Pits.seam();
            case 2: return Pits.kinds();
            default: return Pits.full();
        }
    }

    /** Wrong numbers alone: what is right may change the state and is tested elsewhere. */
    private static void tryAll(int state, int call) {
        CoalWood x = in(state);
        int lumps = x.count(0);
        int refused = 0;
        for (int a : NUMBERS) {
            for (int b : NUMBERS) {
                for (int c : NUMBERS) {
                    if (isRight(call, a, b, c, lumps)) {
                        continue;
                    }
                    if (refused == CALLS_OF_ONE) {
                        lookAt(x, state, call, refused);
                        x = in(state);
                        refused = 0;
                    }
                    long answer = call(x, call, a, b, c);
                    refused++;
                    CHECK.due("call " + call + " of " + a + ", " + b + ", " + c, answer, CoalWood.BAD);
                }
            }
        }
        lookAt(x, state, call, refused);
    }

    private static void lookAt(CoalWood x, int state, int call, int refused) {
        CHECK.due("state behind call " + call, x.digest(), in(state).digest());
        CHECK.due("BAD behind call " + call, x.status(0), refused);
        CHECK.due("NO and FULL behind call " + call, x.status(1) + x.status(2), 0);
    }

    private static void order() {
        CoalWood x = Pits.full();
        long state = x.digest();
        CHECK.due("lump FULL", x.lump(0, 0, 1), CoalWood.FULL);
        CHECK.due("type FULL", x.type(0), CoalWood.FULL);
        CHECK.due("evening FULL", x.evening(0), CoalWood.FULL);
        CHECK.due("seen FULL", x.seen(1, 0, 0), CoalWood.FULL);
        CHECK.due("glimpse FULL", x.glimpse(0, 0, 0), CoalWood.FULL);
        CHECK.due("FULL", x.status(2), 5);
        CHECK.due("lump BAD", x.lump(0, 0, 0), CoalWood.BAD);
        CHECK.due("type BAD", x.type(-1), CoalWood.BAD);
        CHECK.due("evening BAD", x.evening(-1), CoalWood.BAD);
        CHECK.due("seen BAD", x.seen(0, 0, 0), CoalWood.BAD);
        CHECK.due("glimpse BAD", x.glimpse(0, 0, 2), CoalWood.BAD);
        CHECK.due("burn NO", x.burn(2), CoalWood.NO);
        CHECK.due("burn BAD", x.burn(8), CoalWood.BAD);
        CHECK.due("from NO", x.from(1), CoalWood.NO);
        CHECK.due("from BAD", x.from(2), CoalWood.BAD);
        CHECK.due("BAD", x.status(0), 7);
        CHECK.due("NO", x.status(1), 2);
        CHECK.due("state", x.digest(), state);
    }
}
