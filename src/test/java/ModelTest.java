import java.util.ArrayDeque;
import java.util.Deque;
import java.util.Random;

/**
 * Runs of 512 calls by a seed, as many as an object is used for, each answer against SlowWood's: in every other run
 * the digest is asked for behind each call, in the others there are twice as many other calls.
 */
public final class ModelTest {
    private static final Check CHECK = new Check("ModelTest");
    private static final int RUNS = 600;
    /** The digest and three of STATUS come last. */
    private static final int CALLS = 512 - 4;
    private static final int[] ODD_NUMBERS = {
        Integer.MIN_VALUE, -1001, -11, -10, -5, -4, -3, -2, -1, 6, 7, 8, 9, 10, 11, 12, 13, 20, 21, 60, 61,
        99, 100, 127, 128, 150, 999999, 1000000, Integer.MAX_VALUE
    };

    private final Random random;
    private final CoalWood x = new CoalWood();
    private final SlowWood y = new SlowWood();
    /** Few weathers make rows, clashes and afternoons likely. */
    private final int weathers;
    private final int oddity;
    /** Calls with their numbers that come next, if any. */
    private final Deque<int[]> plan = new ArrayDeque<>();

    private ModelTest(long seed) {
        random = new Random(seed);
        weathers = 1 + random.nextInt(6);
        oddity = random.nextInt(3) == 0 ? 5 : 60;
    }

    public static void main(String[] args) {
        for (int seed = 0; seed < RUNS && !CHECK.isWrong(); seed++) {
            new ModelTest(seed).run(seed);
        }
        CHECK.end();
    }

    private void run(int seed) {
        boolean digests = seed % 2 == 0;
        int calls = digests ? CALLS / 2 : CALLS;
        for (int k = 0; k < calls && !CHECK.isWrong(); k++) {
            int[] next = nextCall(k);
            int call = next[0];
            int a = next[1];
            int b = next[2];
            int c = next[3];
            String name = "seed " + seed + ", call " + k + ": " + call + " of " + a + ", " + b + ", " + c;
            CHECK.due(name, ofWood(call, a, b, c), ofSlow(call, a, b, c));
            if (digests) {
                CHECK.due(name + ", digest", x.digest(), y.digest());
            }
        }
        CHECK.due("seed " + seed + ", digest", x.digest(), y.digest());
        for (int what = 0; what < 3; what++) {
            CHECK.due("seed " + seed + ", status(" + what + ")", x.status(what), y.status(what));
        }
    }

    /** Pits are dug at first; what asks comes later; pit, dark, forget, clear are seldom. */
    private int[] nextCall(int k) {
        if (plan.isEmpty() && k >= 30 && random.nextInt(12) == 0) {
            planSomething();
        }
        if (!plan.isEmpty()) {
            return plan.remove();
        }
        if (k < 30 && random.nextInt(3) > 0) {
            return withNumbers(new int[] {3, 3, 4, 5, 5, 15}[random.nextInt(6)]);
        }
        int call = 2 + random.nextInt(35);
        boolean seldom = call == 2 || call == 7 || call == 16 || call == 22;
        if (seldom && random.nextInt(4) > 0) {
            return withNumbers(new int[] {3, 9, 15, 17, 18, 21, 25}[random.nextInt(7)]);
        }
        return withNumbers(call);
    }

    private int[] withNumbers(int call) {
        int a = number(most(call, 0), least(call, 0));
        int b = number(most(call, 1), least(call, 1));
        int c = number(most(call, 2), least(call, 2));
        return new int[] {call, a, b, c};
    }

    /** What calls by chance alone seldom come to: an evening that lumps show, a lump or a walk that there is. */
    private void planSomething() {
        switch (random.nextInt(4)) {
            case 0: planText(); break;
            case 1: planEvening(); break;
            case 2: planSeen(); break;
            default: planWalk();
        }
    }

    private void then(int call, int a, int b, int c) {
        plan.add(new int[] {call, a, b, c});
    }

    /** Anew, or behind what is typed already. */
    private void planText() {
        boolean anew = random.nextInt(4) > 0;
        if (anew) {
            then(7, 0, 0, 0);
        }
        for (char c : text(anew).toCharArray()) {
            then(6, c, 0, 0);
        }
        then(8, 0, 0, 0);
    }

    /** What some lumps show that have room in it, the burnt ones left out more often than not. */
    private void planEvening() {
        then(16, 0, 0, 0);
        int room = 10;
        int from = random.nextInt(8);
        int by = 1 + 2 * random.nextInt(4);
        for (int k = random.nextInt(9); k > 0; k--) {
            int lump = (from + k * by) % 8;
            boolean there = lump < y.count(0) && (y.of(lump, 3) == 0 || random.nextInt(4) == 0);
            if (there && y.shown(lump).size() <= room) {
                y.shown(lump).forEach(weather -> then(15, weather, 0, 0));
                room -= y.shown(lump).size();
            }
        }
        then(18, 0, 0, 0);
        for (int i = -1; i < 5; i++) {
            then(17, i, 0, 0);
        }
    }

    private void planSeen() {
        int n = 1 + random.nextInt(6);
        int kind = random.nextInt(6);
        int a = random.nextInt(13 - n);
        then(22, 0, 0, 0);
        for (int k = random.nextInt(6); k > 0; k--) {
            int t = random.nextInt(13);
            then(21, n, t, y.weatherOf(kind, a, n, t));
            then(23, 0, 0, 0);
            then(23, 1, 0, 0);
            then(24, 0, 0, 0);
        }
    }

    private void planWalk() {
        then(22, 0, 0, 0);
        int cell = random.nextInt(9);
        for (int layer = 0; layer < 12; layer++) {
            int next = random.nextInt(9);
            boolean isBeside = Math.abs(next / 3 - cell / 3) + Math.abs(next % 3 - cell % 3) <= 1;
            cell = isBeside ? next : cell;
            if (random.nextInt(3) == 0) {
                int there = random.nextInt(3) > 0 ? 1 : 0;
                then(25, layer, there == 1 ? cell : (cell + 1 + random.nextInt(8)) % 9, there);
            }
            then(27, random.nextInt(12), 0, 0);
        }
        then(26, 0, 0, 0);
        then(28, 0, 0, 0);
    }

    private String text(boolean anew) {
        StringBuilder text = new StringBuilder(anew ? "pit;" : "");
        for (int k = random.nextInt(5); k > 0; k--) {
            String gap = " ".repeat(1 + random.nextInt(5) / 4);
            switch (random.nextInt(4)) {
                case 0:
                    text.append("layer").append(gap).append(random.nextInt(12)).append(gap).append(random.nextInt(6));
                    break;
                case 1:
                    text.append("price").append(random.nextInt(6)).append(gap).append(random.nextInt(10));
                    break;
                default:
                    text.append("lump").append(random.nextInt(6)).append(gap).append(random.nextInt(8)).append(gap);
                    text.append(1 + random.nextInt(6));
            }
            text.append(random.nextInt(12) == 0 ? " ; " : ";");
        }
        if (text.length() > 0 && random.nextInt(4) == 0) {
            String odd = "pit;layer price lump 0 1 9 99 100 7,Z";
            text.setCharAt(random.nextInt(text.length()), odd.charAt(random.nextInt(odd.length())));
        }
        return text.toString();
    }

    private int number(int most, int least) {
        if (random.nextInt(oddity) == 0) {
            return ODD_NUMBERS[random.nextInt(ODD_NUMBERS.length)];
        }
        return least + random.nextInt(most - least + 1);
    }

    private int least(int call, int which) {
        switch (call * 10 + which) {
            case 52: case 200: case 210: return 1;
            case 170: case 212: return -1;
            case 201: return -2;
            default: return 0;
        }
    }

    /** The greatest number that is likely for an argument of a call. */
    private int most(int call, int which) {
        int w = weathers - 1;
        int lump = Math.max(0, y.count(0) - 1);
        int[][] most = {
            {}, {}, {}, {11, w}, {5, 9}, {5, 7, 5}, {127}, {}, {},
            {lump}, {}, {lump, 6}, {lump, 20}, {lump, lump, 6}, {lump},
            {w}, {}, {4}, {}, {60, 1}, {6, 11},
            {6, 12, w}, {}, {1}, {}, {11, 8, 1}, {}, {11}, {}, {lump, w, 10}, {999999, 60},
            {1}, {1}, {1}, {2}, {8}, {},
        };
        return call < most.length && which < most[call].length ? most[call][which] : 3;
    }

    private long ofWood(int call, int a, int b, int c) {
        switch (call) {
            case 2: return x.pit();
            case 3: return x.layer(a, b);
            case 4: return x.price(a, b);
            case 5: return x.lump(a, b, c);
            case 6: return x.type(a);
            case 7: return x.clear();
            case 8: return x.read();
            case 9: return x.burn(a);
            case 10: return x.undo();
            case 11: return x.of(a, b);
            case 12: return x.shows(a, b);
            case 13: return x.clash(a, b, c);
            case 14: return x.agree(a);
            case 15: return x.evening(a);
            case 16: return x.dark();
            case 17: return x.fewest(a);
            case 18: return x.rows();
            case 19: return x.best(a, b);
            case 20: return x.cut(a, b);
            case 21: return x.seen(a, b, c);
            case 22: return x.forget();
            case 23: return x.fits(a);
            case 24: return x.look();
            case 25: return x.glimpse(a, b, c);
            case 26: return x.walks();
            case 27: return x.places(a);
            case 28: return x.leftTo();
            case 29: return x.odds(a, b, c);
            case 30: return x.drawn(a, b);
            case 31: return x.part(a);
            case 32: return x.image(a);
            case 33: return x.from(a);
            case 34: return x.status(a);
            case 35: return x.count(a);
            default: return x.digest();
        }
    }

    private long ofSlow(int call, int a, int b, int c) {
        switch (call) {
            case 2: return y.pit();
            case 3: return y.layer(a, b);
            case 4: return y.price(a, b);
            case 5: return y.lump(a, b, c);
            case 6: return y.type(a);
            case 7: return y.clear();
            case 8: return y.read();
            case 9: return y.burn(a);
            case 10: return y.undo();
            case 11: return y.of(a, b);
            case 12: return y.shows(a, b);
            case 13: return y.clash(a, b, c);
            case 14: return y.agree(a);
            case 15: return y.evening(a);
            case 16: return y.dark();
            case 17: return y.fewest(a);
            case 18: return y.rows();
            case 19: return y.best(a, b);
            case 20: return y.cut(a, b);
            case 21: return y.seen(a, b, c);
            case 22: return y.forget();
            case 23: return y.fits(a);
            case 24: return y.look();
            case 25: return y.glimpse(a, b, c);
            case 26: return y.walks();
            case 27: return y.places(a);
            case 28: return y.leftTo();
            case 29: return y.odds(a, b, c);
            case 30: return y.drawn(a, b);
            case 31: return y.part(a);
            case 32: return y.image(a);
            case 33: return y.from(a);
            case 34: return y.status(a);
            case 35: return y.count(a);
            default: return y.digest();
        }
    }
}
