import java.util.function.Supplier;

/** Boundary cases of promises 9 to 14, most with the sentence of the document that names them. */
public final class FiresEdgesTest {
    private static final Check CHECK = new Check("FiresEdgesTest");
    private static final int PLAIN = 0, BACK = 1, SLACK = 2, DAMP = 3, CANNEL = 4, SPIT = 5;

    /** What a KIND of SIZE 1, 2, .. 6 shows, STEP by STEP: LAYERS of its own, a dot for smoke. */
    private static final String[][] OWN = {
        {"0", "01", "012", "0123", "01234", "012345"},
        {"0", "10", "210", "3210", "43210", "543210"},
        {"0", "0", "02", "02", "024", "024"},
        {"00", "0011", "001122", "00112233", "0011223344", "001122334455"},
        {".0", ".10", ".210", ".3210", ".43210", ".543210"},
        {"0.", "0.1.", "0.1.2.", "0.1.2.3.", "0.1.2.3.4.", "0.1.2.3.4.5."},
    };

    private static void due(String call, long got, long want) {
        CHECK.due(call, got, want);
    }

    public static void main(String[] args) {
        kindsOfEverySize();
        weathersAndWorthOfEverySize();
        burnPaidNothing();
        burnPaidMost();
        burnOnce();
        undoNone();
        undoEight();
        undoGoesBackByOne();
        undoBehindALump();
        undoBehindPitReadAndImage();
        ofBeforeAndBehindFire();
        clashFirstAndLastStep();
        clashOfSmokeAndAsh();
        clashIsTheFirst();
        agreeWithNoneAndAll();
        agreeIsLitTogether();
        CHECK.end();
    }

    /** A seam whose layers 0 to 5, and 6 to 11, have weathers 0 to 5, each priced as its number. */
    private static CoalWood steps() {
        CoalWood x = new CoalWood();
        for (int l = 0; l < 12; l++) {
            x.layer(l, l % 6);
        }
        for (int weather = 0; weather < 6; weather++) {
            x.price(weather, weather);
        }
        return x;
    }

    /**
     * "say for how many STEPS it burns, which LAYER of its own (0 .. n less 1; NONE: smoke alone) shows in STEP t (0
     * on)"; "Behind its last STEP: NONE (ash)."; "in a STEP (0 .. 20). NONE."
     */
    private static void kindsOfEverySize() {
        for (int kind = 0; kind < 6; kind++) {
            for (int n = 1; n <= 6; n++) {
                CoalWood x = new CoalWood();
                x.lump(kind, 0, n);
                x.lump(kind, 12 - n, n);
                String own = OWN[kind][n - 1];
                String name = "kind " + kind + " of size " + n;
                due(name + ": STEPS", x.of(0, 4), own.length());
                due(name + ": STEPS from the last layers", x.of(1, 4), own.length());
                for (int t = 0; t <= 20; t++) {
                    boolean shows = t < own.length() && own.charAt(t) != '.';
                    int layer = shows ? own.charAt(t) - '0' : 0;
                    due(name + ": shows in " + t, x.shows(0, t), shows ? layer : CoalWood.NONE);
                    due(name + ": shows in " + t, x.shows(1, t), shows ? 12 - n + layer : CoalWood.NONE);
                }
                due(name + ": NONE counts nowhere", x.status(0) + x.status(1) + x.status(2), 0);
            }
        }
    }

    /** "What a LUMP SHOWS: WEATHERS of the LAYERS that show, STEP by STEP, those of smoke left out." */
    private static void weathersAndWorthOfEverySize() {
        for (int kind = 0; kind < 6; kind++) {
            for (int n = 1; n <= 6; n++) {
                CoalWood x = steps();
                x.lump(kind, 6, n);
                int weathers = 0;
                int worth = 0;
                for (char layer : OWN[kind][n - 1].replace(".", "").toCharArray()) {
                    weathers++;
                    worth += layer - '0';
                }
                String name = "kind " + kind + " of size " + n;
                due(name + ": WEATHERS", x.of(0, 5), weathers);
                due(name + ": WORTH", x.of(0, 6), worth);
                due(name + ": burn", x.burn(0), worth);
                due(name + ": MONEY", x.count(2), worth);
                due(name + ": CLOCK", x.count(3), OWN[kind][n - 1].length());
            }
        }
    }

    /** "what it SHOWS is paid for by PRICES": by 0 it is paid nothing, and is BURNT. */
    private static void burnPaidNothing() {
        CoalWood x = new CoalWood();
        x.price(0, 0);
        x.lump(SLACK, 11, 1);
        due("burn for nothing", x.burn(0), 0);
        due("BURNT", x.count(1), 1);
        due("MONEY", x.count(2), 0);
        due("CLOCK", x.count(3), 1);
        due("may be undone", x.count(7), 1);
        due("burn again", x.burn(0), CoalWood.NO);
        due("undo", x.undo(), 0);
        due("BURNT no more", x.count(1), 0);
        due("CLOCK then", x.count(3), 0);
    }

    /** Eight LUMPS, each of most STEPS and WORTH. */
    private static void burnPaidMost() {
        CoalWood x = new CoalWood();
        x.price(0, 9);
        for (int k = 0; k < 8; k++) {
            x.lump(DAMP, 6, 6);
        }
        for (int k = 1; k <= 8; k++) {
            due("burn, the " + k + "th", x.burn(k - 1), 108);
            due("MONEY", x.count(2), 108 * k);
            due("CLOCK", x.count(3), 12 * k);
        }
        due("BURNT", x.count(1), 255);
        for (int k = 0; k < 8; k++) {
            due("burn again", x.burn(k), CoalWood.NO);
        }
        due("NO", x.status(1), 8);
        due("MONEY then", x.count(2), 864);
        due("CLOCK then", x.count(3), 96);
        due("undo", x.undo(), 756);
    }

    /** "NO: it is BURNT."; behind it what may be undone is as it was. */
    private static void burnOnce() {
        for (int k = 0; k < 6; k++) {
            int lump = k;
            String name = "burn(" + k + ") again";
            new Twins(CHECK, () -> burnt(lump)).answers(name, x -> x.burn(lump), CoalWood.NO, Twins.NO).areAlike(name);
        }
    }

    private static CoalWood burnt(int lump) {
        CoalWood x = Pits.kinds();
        x.burn(lump);
        return x;
    }

    /** "NO: none may be." */
    private static void undoNone() {
        undoNone("undo, new", CoalWood::new);
        undoNone("undo, no fire", Pits::kinds);
        undoNone("undo, a lump came", FiresEdgesTest::burntAheadOfALump);
    }

    private static void undoNone(String name, Supplier<CoalWood> made) {
        new Twins(CHECK, made).answers(name, CoalWood::undo, CoalWood.NO, Twins.NO).areAlike(name);
    }

    private static CoalWood burntAheadOfALump() {
        CoalWood x = Pits.kinds();
        x.burn(3);
        x.lump(PLAIN, 0, 1);
        return x;
    }

    /** "(8 at most; ..)": what may be undone is counted up to 8 and down to 0; the ninth is NO. */
    private static void undoEight() {
        CoalWood x = Pits.kinds();
        x.lump(PLAIN, 0, 1);
        x.lump(PLAIN, 0, 1);
        int[] money = new int[9];
        int[] clock = new int[9];
        int[] burnt = new int[9];
        for (int k = 0; k < 8; k++) {
            due("may be undone", x.count(7), k);
            int lump = k * 3 % 8;
            money[k + 1] = money[k] + x.of(lump, 6);
            clock[k + 1] = clock[k] + x.of(lump, 4);
            burnt[k + 1] = burnt[k] | 1 << lump;
            x.burn(lump);
        }
        due("may be undone", x.count(7), 8);
        due("a burn that is refused", x.burn(0), CoalWood.NO);
        due("may be undone still", x.count(7), 8);
        for (int k = 7; k >= 0; k--) {
            due("undo: MONEY then", x.undo(), money[k]);
            due("undo: MONEY", x.count(2), money[k]);
            due("undo: CLOCK", x.count(3), clock[k]);
            due("undo: BURNT", x.count(1), burnt[k]);
            due("may be undone", x.count(7), k);
        }
        due("the ninth", x.undo(), CoalWood.NO);
        due("the tenth", x.undo(), CoalWood.NO);
        due("NO", x.status(1), 3);
        due("burn behind all that", x.burn(7), 3);
        due("may be undone", x.count(7), 1);
    }

    /** Many fires by turns, more than 8: each goes back to just ahead of it. */
    private static void undoGoesBackByOne() {
        CoalWood x = Pits.kinds();
        x.burn(3);
        for (int k = 0; k < 20; k++) {
            due("burn(0)", x.burn(0), 5);
            due("may be undone", x.count(7), 2);
            due("undo", x.undo(), 10);
            due("CLOCK", x.count(3), 6);
        }
        due("undo of the first", x.undo(), 0);
        due("undo, none left", x.undo(), CoalWood.NO);
    }

    /** "behind a LUMP that comes none may be": one that is refused does not come. */
    private static void undoBehindALump() {
        CoalWood x = Pits.kinds();
        x.burn(1);
        x.burn(2);
        x.lump(6, 0, 1);
        x.lump(0, 12, 1);
        x.lump(0, 0, 7);
        due("may be undone behind BAD", x.count(7), 2);
        x.lump(PLAIN, 0, 1);
        due("none behind a lump", x.count(7), 0);
        x.burn(6);
        due("the one burnt behind it", x.count(7), 1);
        due("undo of it", x.undo(), 9);
        due("undo, no further", x.undo(), CoalWood.NO);
        due("BURNT stays", x.count(1), 6);
        due("CLOCK stays", x.count(3), 5);
        x.lump(PLAIN, 0, 1);
        x.burn(0);
        due("lump, FULL", x.lump(PLAIN, 0, 1), CoalWood.FULL);
        due("may be undone behind FULL", x.count(7), 1);
        due("undo behind FULL", x.undo(), 9);
    }

    private static void undoBehindPitReadAndImage() {
        CoalWood x = Pits.kinds();
        x.image(0);
        x.burn(0);
        x.from(0);
        due("from: none may be", x.undo(), CoalWood.NO);
        x.burn(0);
        Pits.read(x, "pit");
        due("behind a fault one may be", x.count(7), 1);
        Pits.read(x, "pit;lump 6 0 0;");
        due("behind a refused item one may be", x.count(7), 1);
        Pits.read(x, "pit;");
        due("behind read: none may be", x.undo(), CoalWood.NO);
        x.from(0);
        x.burn(0);
        x.pit();
        due("behind pit: none may be", x.undo(), CoalWood.NO);
        x.from(0);
        x.burn(0);
        x.layer(0, 0);
        x.price(0, 0);
        x.evening(0);
        x.dark();
        x.seen(1, 0, 0);
        x.glimpse(0, 0, 0);
        x.forget();
        x.odds(0, 0, 0);
        x.type('a');
        x.clear();
        x.image(1);
        due("behind all else one may be", x.undo(), 0);
    }

    /** "Of a LUMP: .. whether it is BURNT (3; 1, 0)": nothing else of it goes up in smoke. */
    private static void ofBeforeAndBehindFire() {
        CoalWood x = Pits.kinds();
        for (int lump = 0; lump < 6; lump++) {
            int[] before = new int[7];
            for (int what = 0; what < 7; what++) {
                before[what] = x.of(lump, what);
            }
            due("not BURNT", before[3], 0);
            x.burn(lump);
            for (int what = 0; what < 7; what++) {
                due("of(" + lump + ", " + what + ") behind fire", x.of(lump, what), what == 3 ? 1 : before[what]);
            }
            x.undo();
            due("not BURNT again", x.of(lump, 3), 0);
        }
    }

    /** "j lit d STEPS (0 .. 20) later: the first STEP (of i) in which both show a LAYER" */
    private static void clashFirstAndLastStep() {
        CoalWood x = steps();
        x.lump(PLAIN, 0, 6);
        x.lump(PLAIN, 0, 6);
        x.lump(DAMP, 0, 6);
        x.lump(CANNEL, 1, 5);
        x.lump(SLACK, 1, 5);
        x.lump(PLAIN, 7, 1);
        due("the same, lit together", x.clash(0, 1, 0), CoalWood.NONE);
        for (int d = 1; d <= 20; d++) {
            due("PLAIN of 6 by " + d, x.clash(0, 1, d), d <= 5 ? d : CoalWood.NONE);
            due("DAMP of 6 by " + d, x.clash(2, 0, d), d == 1 ? 3 : d <= 11 ? d : CoalWood.NONE);
            due("CANNEL of 5 by " + d, x.clash(3, 0, d), d <= 5 ? d : CoalWood.NONE);
            due("SLACK of 5 by " + d, x.clash(4, 0, d), d <= 2 ? d : CoalWood.NONE);
            due("PLAIN of 1 by " + d, x.clash(5, 0, d), CoalWood.NONE);
        }
        due("DAMP of 6 by 0", x.clash(2, 0, 0), 1);
        due("PLAIN of 1 by 0", x.clash(5, 0, 0), 0);
        due("one that is ash by then", x.clash(0, 5, 0), 0);
        due("one that is alike, then ash", x.clash(0, 5, 1), CoalWood.NONE);
        due("NONE counts nowhere", x.status(0) + x.status(1) + x.status(2), 0);
    }

    /** Smoke and ash clash with nothing, in either grate. */
    private static void clashOfSmokeAndAsh() {
        CoalWood x = steps();
        x.lump(PLAIN, 0, 6);
        x.lump(CANNEL, 0, 6);
        x.lump(SPIT, 0, 6);
        x.lump(SPIT, 6, 6);
        x.lump(BACK, 0, 1);
        due("CANNEL's smoke in i's last STEP", x.clash(0, 1, 5), CoalWood.NONE);
        due("CANNEL's smoke, then alike", x.clash(0, 1, 4), CoalWood.NONE);
        due("CANNEL's smoke, then unlike", x.clash(0, 1, 3), 4);
        due("smoke of i", x.clash(1, 4, 0), CoalWood.NONE);
        due("behind the smoke of i", x.clash(1, 4, 1), 1);
        due("alike in the last STEP", x.clash(1, 4, 6), CoalWood.NONE);
        due("SPIT and SPIT, lit together", x.clash(2, 3, 0), CoalWood.NONE);
        due("SPIT and SPIT, one STEP later", x.clash(2, 3, 1), CoalWood.NONE);
        due("SPIT and SPIT, two STEPS later", x.clash(2, 3, 2), 2);
        due("SPIT and SPIT, by 9", x.clash(2, 3, 9), CoalWood.NONE);
        due("SPIT and SPIT, by 10", x.clash(2, 3, 10), 10);
        due("SPIT's last STEP is smoke", x.clash(2, 3, 11), CoalWood.NONE);
        due("BURNT or not", x.burn(2) + x.clash(2, 3, 2), 15 + 2);
    }

    private static void clashIsTheFirst() {
        CoalWood x = new CoalWood();
        x.layer(11, 1);
        x.layer(6, 1);
        x.lump(PLAIN, 0, 6);
        x.lump(PLAIN, 6, 6);
        x.lump(PLAIN, 7, 5);
        due("the first of two", x.clash(0, 1, 0), 0);
        due("the first of two, one later", x.clash(0, 1, 1), 1);
        due("the last STEP", x.clash(0, 2, 1), 5);
        due("just behind the last STEP", x.clash(0, 2, 2), CoalWood.NONE);
        due("the last of the shorter", x.clash(0, 2, 0), 4);
        due("told of the other", x.clash(2, 0, 0), 4);
        due("told of the other, one later", x.clash(2, 0, 1), 4);
        due("told of the other, four later", x.clash(2, 0, 4), 4);
        due("told of the other, five later", x.clash(2, 0, 5), CoalWood.NONE);
    }

    /** "with how many other LUMPS, lit together, one has no CLASH (bits)" */
    private static void agreeWithNoneAndAll() {
        CoalWood x = new CoalWood();
        for (int lumps = 1; lumps <= 8; lumps++) {
            x.lump(PLAIN, 0, 2);
            for (int k = 0; k < lumps; k++) {
                due(lumps + " like ones: agree(" + k + ")", x.agree(k), (1 << lumps) - 1 - (1 << k));
            }
            due(lumps + " like ones: agree(" + lumps + ")", x.agree(lumps), CoalWood.BAD);
        }
        CoalWood y = steps();
        for (int k = 0; k < 6; k++) {
            y.lump(PLAIN, k, 1);
        }
        y.lump(PLAIN, 6, 2);
        y.lump(CANNEL, 11, 1);
        for (int k = 0; k < 6; k++) {
            due("unlike ones: agree(" + k + ")", y.agree(k), 128 + (k == 0 ? 64 : 0));
        }
        due("agree(6)", y.agree(6), 1);
        due("agree(7): 5 in STEP 1 against 1", y.agree(7), 63);
        y.burn(0);
        due("BURNT or not", y.agree(6), 1);
        due("itself BURNT", y.agree(0), 128 + 64);
    }

    /** A clash that comes only if one is lit later is none. */
    private static void agreeIsLitTogether() {
        CoalWood x = steps();
        x.lump(PLAIN, 0, 6);
        x.lump(PLAIN, 6, 6);
        due("agree", x.agree(0), 2);
        due("agree", x.agree(1), 1);
        due("clash", x.clash(0, 1, 1), 1);
    }
}
