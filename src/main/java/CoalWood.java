import java.util.Arrays;

/**
 * Old coal that remembers the wood it was: a seam of layers, lumps cut from it, fires, evenings,
 * what was seen of a lump or of somebody in the wood. DOC.md numbers what each call promises.
 *
 * Every row that a call needs is made with the object and used again, so that calls make nothing.
 */
public final class CoalWood {
    public static final int NONE = -1, BAD = -2, NO = -3, FULL = -4;

    private static final int LAYERS = 12, WEATHERS = 6, KINDS = 6, LUMPS = 8, LARGEST = 6;
    private static final int MOST_PRICE = 9, MOST_PURSE = 99, MOST_STEP = 20, MOST_SEEN_STEP = 12;
    private static final int MOST_STEPS = 2 * LARGEST;
    private static final int EVENING = 10, SIGHTS = 8, GLIMPSES = 6, IMAGES = 2;
    private static final int SIDE = 3, CELLS = SIDE * SIDE;
    private static final int TENTHS = 10, MOST_SEED = 999999, MOST_DRAWN = 60;
    private static final int NOT_SO_MANY = -5, BAD_INDEX = -10;
    private static final int FAULTY = -10, REFUSED = -1000;
    private static final int COUNTS = 9, ALL_AFTERNOONS = -2;

    private Pit pit;
    private Pit trial;
    private final Pit[] images;
    private final boolean[] kept;
    private final Text text;
    private final Plans plans;
    private final Clues clues;
    private long above;
    private long below;
    private int badCalls;
    private int noCalls;
    private int fullCalls;

    public CoalWood() {
        pit = new Pit();
        trial = new Pit();
        images = new Pit[IMAGES];
        for (int i = 0; i < images.length; i++) {
            images[i] = new Pit();
        }
        kept = new boolean[IMAGES];
        text = new Text();
        plans = new Plans();
        clues = new Clues();
        above = 0;
        below = 1;
    }

    // ---- a pit

    public int pit() {
        int lumps = pit.lumps.size;
        pit.reset();
        return lumps;
    }

    public int layer(int l, int weather) {
        return counted(pit.setWeather(l, weather));
    }

    public int price(int weather, int n) {
        return counted(pit.setPrice(weather, n));
    }

    public int lump(int kind, int a, int n) {
        return counted(pit.addLump(kind, a, n));
    }

    public int type(int c) {
        return counted(text.append(c));
    }

    public int clear() {
        return text.empty();
    }

    public int read() {
        int answer = text.tell(trial);
        if (answer > 0) {
            Pit old = pit;
            pit = trial;
            trial = old;
        }
        return answer;
    }

    // ---- fires

    public int burn(int lump) {
        if (!pit.hasLump(lump)) {
            return counted(BAD);
        }
        if (pit.isBurnt(lump)) {
            return counted(NO);
        }
        int paid = pit.worth(lump);
        pit.light(lump, paid);
        return paid;
    }

    public int undo() {
        return counted(pit.goBack());
    }

    public int of(int lump, int what) {
        if (!pit.hasLump(lump)) {
            return counted(BAD);
        }
        switch (what) {
            case 0: return pit.lumps.at(lump, 0);
            case 1: return pit.lumps.at(lump, 1);
            case 2: return pit.lumps.at(lump, 2);
            case 3: return pit.isBurnt(lump) ? 1 : 0;
            case 4: return pit.steps(lump);
            case 5: return pit.writeShown(lump);
            case 6: return pit.worth(lump);
            default: return counted(BAD);
        }
    }

    public int shows(int lump, int t) {
        if (!pit.hasLump(lump) || !within(t, 0, MOST_STEP)) {
            return counted(BAD);
        }
        return pit.layerShown(lump, t);
    }

    public int clash(int i, int j, int d) {
        if (!pit.hasLump(i) || !pit.hasLump(j) || i == j || !within(d, 0, MOST_STEP)) {
            return counted(BAD);
        }
        return pit.firstClash(i, j, d);
    }

    public int agree(int lump) {
        if (!pit.hasLump(lump)) {
            return counted(BAD);
        }
        int bits = 0;
        for (int other = 0; other < pit.lumps.size; other++) {
            if (other != lump && pit.firstClash(lump, other, 0) == NONE) {
                bits |= 1 << other;
            }
        }
        return bits;
    }

    // ---- an evening

    public int evening(int weather) {
        if (!isWeather(weather)) {
            return counted(BAD);
        }
        return counted(pit.evening.add(weather, 0, 0));
    }

    public int dark() {
        return pit.evening.empty();
    }

    public int fewest(int i) {
        if (i < NONE) {
            return badIndex();
        }
        plans.findWays(pit);
        return plans.ofFewest(pit.evening.size, i);
    }

    public int rows() {
        plans.findWays(pit);
        return plans.rowsOf(pit.evening.size);
    }

    public int best(int purse, int what) {
        if (!within(purse, 0, MOST_PURSE) || !within(what, 0, 1)) {
            return counted(BAD);
        }
        plans.weigh(pit);
        int bits = plans.bestFor(purse, pit.burnt);
        return what == 0 ? bits : plans.bestWorth;
    }

    public int cut(int c, int i) {
        if (!within(c, 1, LARGEST) || i < ALL_AFTERNOONS) {
            return badIndex();
        }
        return plans.ofCut(pit, c, i);
    }

    // ---- what was seen

    public int seen(int n, int t, int weather) {
        if (!isSize(n) || !within(t, 0, MOST_SEEN_STEP) || !(weather == NONE || isWeather(weather))) {
            return counted(BAD);
        }
        return counted(pit.addSight(n, t, weather));
    }

    public int forget() {
        return pit.dropClues();
    }

    public int fits(int what) {
        if (!within(what, 0, 1)) {
            return badIndex();
        }
        int found = clues.markFits(pit);
        return what == 0 ? found : clues.firstFit;
    }

    public int look() {
        return clues.markFits(pit) == 0 ? NONE : clues.nextStep(pit);
    }

    public int glimpse(int layer, int cell, int is) {
        if (!isLayer(layer) || !within(cell, 0, CELLS - 1) || !within(is, 0, 1)) {
            return counted(BAD);
        }
        return counted(pit.glimpses.add(layer, cell, is));
    }

    public long walks() {
        return clues.countWalks(pit);
    }

    public int places(int layer) {
        if (!isLayer(layer)) {
            return counted(BAD);
        }
        clues.countWalks(pit);
        return clues.cellsIn(layer);
    }

    public int leftTo() {
        return clues.countWalks(pit) == 0 ? NONE : clues.widestLayer();
    }

    public int odds(int lump, int weather, int c) {
        if (!pit.hasLump(lump) || !isWeather(weather) || !within(c, 0, TENTHS)) {
            return counted(BAD);
        }
        above = 0;
        below = 1;
        int step = pit.firstStepOf(lump, weather);
        if (step != NONE) {
            setPower(TENTHS - c, step + 1);
        }
        return 1;
    }

    public int drawn(int seed, int n) {
        if (!within(seed, 0, MOST_SEED) || !within(n, 0, MOST_DRAWN)) {
            return counted(BAD);
        }
        plans.weigh(pit);
        long x = seed;
        int worth = 0;
        for (int k = 0; k < n; k++) {
            x = (x * 1103515245L + 12345L) % 2147483648L;
            worth += plans.worthOf((int) (x / 65536L % LUMPS));
        }
        return worth;
    }

    // ---- what there is

    public long part(int what) {
        if (!within(what, 0, 1)) {
            return counted(BAD);
        }
        return what == 0 ? above : below;
    }

    public int image(int i) {
        if (!within(i, 0, IMAGES - 1)) {
            return counted(BAD);
        }
        images[i].become(pit);
        kept[i] = true;
        return 1;
    }

    public int from(int i) {
        if (!within(i, 0, IMAGES - 1)) {
            return counted(BAD);
        }
        if (!kept[i]) {
            return counted(NO);
        }
        pit.become(images[i]);
        return 1;
    }

    public int status(int what) {
        switch (what) {
            case 0: return badCalls;
            case 1: return noCalls;
            case 2: return fullCalls;
            default:
                badCalls++;
                return -1;
        }
    }

    public int count(int what) {
        if (!within(what, 0, COUNTS - 1)) {
            return counted(BAD);
        }
        return howMany(what);
    }

    public long digest() {
        long h = 1091;
        for (int what = 0; what < COUNTS; what++) {
            h = mixed(h, howMany(what));
        }
        h = pit.mixedInto(h);
        h = mixed(h, above);
        return mixed(h, below);
    }

    // ---- helpers of the face

    /** Counts a refused call; an answer that is no refusal passes through. */
    private int counted(int answer) {
        if (answer == BAD) {
            badCalls++;
        } else if (answer == NO) {
            noCalls++;
        } else if (answer == FULL) {
            fullCalls++;
        }
        return answer;
    }

    /** BAD where -2 could be mistaken for an answer. */
    private int badIndex() {
        badCalls++;
        return BAD_INDEX;
    }

    private int howMany(int what) {
        switch (what) {
            case 0: return pit.lumps.size;
            case 1: return pit.burnt;
            case 2: return pit.money;
            case 3: return pit.clock;
            case 4: return pit.evening.size;
            case 5: return pit.sights.size;
            case 6: return pit.glimpses.size;
            case 7: return pit.past.size;
            case 8: return text.size;
            default: return 0;
        }
    }

    /** THE FRACTION is (tenths by 10) to a power: lowered ahead of it, so that it stays in lowest terms. */
    private void setPower(int tenths, int power) {
        int over = tenths;
        int under = TENTHS;
        if (over % 2 == 0) {
            over /= 2;
            under /= 2;
        }
        if (over % 5 == 0) {
            over /= 5;
            under /= 5;
        }
        above = 1;
        for (int k = 0; k < power; k++) {
            above *= over;
            below *= under;
        }
    }

    private static boolean within(int x, int least, int most) {
        return x >= least && x <= most;
    }

    private static boolean isLayer(int x) {
        return within(x, 0, LAYERS - 1);
    }

    private static boolean isWeather(int x) {
        return within(x, 0, WEATHERS - 1);
    }

    private static boolean isSize(int x) {
        return within(x, 1, LARGEST);
    }

    private static long mixed(long h, long v) {
        return 31 * h + v;
    }

    // ---- kinds, each under the one told

    /** For how many STEPS coal of a size burns, and which LAYER of its own it shows when. */
    private static class Plain {
        int burnsFor(int n) {
            return n;
        }

        int own(int n, int t) {
            return t >= 0 && t < n ? t : NONE;
        }
    }

    private static class Back extends Plain {
        int own(int n, int t) {
            return super.own(n, n - 1 - t);
        }
    }

    private static final class Slack extends Plain {
        int burnsFor(int n) {
            return (super.burnsFor(n) + 1) / 2;
        }

        int own(int n, int t) {
            return super.own(n, 2 * t);
        }
    }

    private static class Damp extends Plain {
        int burnsFor(int n) {
            return 2 * super.burnsFor(n);
        }

        int own(int n, int t) {
            return t < 0 ? NONE : super.own(n, t / 2);
        }
    }

    private static final class Cannel extends Back {
        int burnsFor(int n) {
            return super.burnsFor(n) + 1;
        }

        int own(int n, int t) {
            return t < 1 ? NONE : super.own(n, t - 1);
        }
    }

    private static final class Spit extends Damp {
        int own(int n, int t) {
            return t % 2 == 0 ? super.own(n, t) : NONE;
        }
    }

    /** Rows of up to three numbers, as they come, up to a limit. */
    private static final class Table {
        private static final int WIDTH = 3, MOST_ROWS = 10;

        private final int[] cells = new int[WIDTH * MOST_ROWS];
        private final int limit;
        int size;

        Table(int limit) {
            this.limit = Math.min(limit, MOST_ROWS);
        }

        boolean isFull() {
            return size >= limit;
        }

        int at(int row, int column) {
            if (row < 0 || row >= size || row >= MOST_ROWS || column < 0 || column >= WIDTH) {
                return NONE;
            }
            return cells[row * WIDTH + column];
        }

        /** How many rows there are then, or FULL. */
        int add(int x, int y, int z) {
            if (isFull()) {
                return FULL;
            }
            int first = size * WIDTH;
            cells[first] = x;
            cells[first + 1] = y;
            cells[first + 2] = z;
            size++;
            return size;
        }

        void dropLast() {
            if (size > 0) {
                size--;
            }
        }

        int empty() {
            int had = size;
            size = 0;
            return had;
        }

        void copyRows(Table other) {
            System.arraycopy(other.cells, 0, cells, 0, cells.length);
            size = Math.min(other.size, limit);
        }

        long mixedRows(long start, int columns) {
            long h = start;
            for (int row = 0; row < size; row++) {
                for (int column = 0; column < columns; column++) {
                    h = mixed(h, at(row, column));
                }
            }
            return h;
        }
    }

    /** All that an IMAGE keeps: seam, prices, lumps, fires, the evening, what was seen. */
    private static final class Pit {
        private static final int KIND = 0, START = 1, SIZE = 2;

        private final Plain[] kinds = {
            new Plain(), new Back(), new Slack(), new Damp(), new Cannel(), new Spit()
        };
        final int[] weathers = new int[LAYERS];
        final int[] prices = new int[WEATHERS];
        final Table lumps = new Table(LUMPS);
        /** BURNT, MONEY, CLOCK ahead of each LUMP that may be undone. */
        final Table past = new Table(LUMPS);
        final Table evening = new Table(EVENING);
        final Table sights = new Table(SIGHTS);
        final Table glimpses = new Table(GLIMPSES);
        private final int[] shown = new int[MOST_STEPS];
        int burnt;
        int money;
        int clock;
        int sightSize;

        Pit() {
            Arrays.fill(prices, 1);
            sightSize = 1;
        }

        void reset() {
            Arrays.fill(weathers, 0);
            Arrays.fill(prices, 1);
            lumps.empty();
            past.empty();
            evening.empty();
            burnt = 0;
            money = 0;
            clock = 0;
            dropClues();
        }

        void become(Pit other) {
            System.arraycopy(other.weathers, 0, weathers, 0, LAYERS);
            System.arraycopy(other.prices, 0, prices, 0, WEATHERS);
            lumps.copyRows(other.lumps);
            past.copyRows(other.past);
            evening.copyRows(other.evening);
            sights.copyRows(other.sights);
            glimpses.copyRows(other.glimpses);
            burnt = other.burnt;
            money = other.money;
            clock = other.clock;
            sightSize = other.sightSize;
        }

        int setWeather(int l, int weather) {
            if (!isLayer(l) || !isWeather(weather)) {
                return BAD;
            }
            int was = weathers[l];
            weathers[l] = weather;
            return was;
        }

        int setPrice(int weather, int n) {
            if (!isWeather(weather) || !within(n, 0, MOST_PRICE)) {
                return BAD;
            }
            int was = prices[weather];
            prices[weather] = n;
            return was;
        }

        int addLump(int kind, int a, int n) {
            if (!within(kind, 0, KINDS - 1) || !isSize(n) || !within(a, 0, LAYERS - n)) {
                return BAD;
            }
            if (lumps.isFull()) {
                return FULL;
            }
            past.empty();
            return lumps.add(kind, a, n) - 1;
        }

        boolean hasLump(int lump) {
            return lump >= 0 && lump < lumps.size;
        }

        boolean isBurnt(int lump) {
            return (burnt >> lump & 1) == 1;
        }

        void light(int lump, int paid) {
            past.add(burnt, money, clock);
            burnt |= 1 << lump;
            money += paid;
            clock += steps(lump);
        }

        /** MONEY as ahead of the last LUMP burnt, or NO. */
        int goBack() {
            int last = past.size - 1;
            if (last < 0) {
                return NO;
            }
            burnt = past.at(last, 0);
            money = past.at(last, 1);
            clock = past.at(last, 2);
            past.dropLast();
            return money;
        }

        int steps(int lump) {
            int kind = lumps.at(lump, KIND);
            if (kind < 0 || kind >= kinds.length) {
                return 0;
            }
            return kinds[kind].burnsFor(lumps.at(lump, SIZE));
        }

        /** The WEATHER that a lump of a KIND, cut from a LAYER on, would show; NONE: smoke or ash. */
        int weatherOfCut(int kind, int a, int n, int t) {
            if (kind < 0 || kind >= kinds.length) {
                return NONE;
            }
            return weatherIn(inSeam(a, kinds[kind].own(n, t)));
        }

        int layerShown(int lump, int t) {
            int kind = lumps.at(lump, KIND);
            if (kind < 0 || kind >= kinds.length) {
                return NONE;
            }
            return inSeam(lumps.at(lump, START), kinds[kind].own(lumps.at(lump, SIZE), t));
        }

        private static int inSeam(int a, int own) {
            return own == NONE ? NONE : a + own;
        }

        /** The WEATHER of a LAYER; NONE of NONE. */
        int weatherIn(int layer) {
            return isLayer(layer) ? weathers[layer] : NONE;
        }

        /** Writes what a LUMP SHOWS, without smoke, into the row of this pit: how many WEATHERS. */
        int writeShown(int lump) {
            int steps = steps(lump);
            int written = 0;
            for (int t = 0; t < steps && written < shown.length; t++) {
                int weather = weatherIn(layerShown(lump, t));
                if (weather != NONE) {
                    shown[written] = weather;
                    written++;
                }
            }
            return written;
        }

        int shownAt(int k) {
            return k >= 0 && k < shown.length ? shown[k] : NONE;
        }

        int worth(int lump) {
            int written = writeShown(lump);
            int paid = 0;
            for (int k = 0; k < written; k++) {
                int weather = shownAt(k);
                paid += isWeather(weather) ? prices[weather] : 0;
            }
            return paid;
        }

        int firstStepOf(int lump, int weather) {
            int steps = steps(lump);
            for (int t = 0; t < steps; t++) {
                if (weatherIn(layerShown(lump, t)) == weather) {
                    return t;
                }
            }
            return NONE;
        }

        int firstClash(int i, int j, int d) {
            int steps = steps(i);
            for (int t = d; t < steps; t++) {
                int one = weatherIn(layerShown(i, t));
                int other = weatherIn(layerShown(j, t - d));
                if (one != NONE && other != NONE && one != other) {
                    return t;
                }
            }
            return NONE;
        }

        int addSight(int n, int t, int weather) {
            int now = sights.add(t, weather, 0);
            if (now != FULL) {
                sightSize = n;
            }
            return now;
        }

        int dropClues() {
            sightSize = 1;
            return sights.empty() + glimpses.empty();
        }

        long mixedInto(long start) {
            long h = start;
            for (int l = 0; l < LAYERS; l++) {
                h = mixed(h, weathers[l]);
            }
            for (int w = 0; w < WEATHERS; w++) {
                h = mixed(h, prices[w]);
            }
            h = lumps.mixedRows(h, 3);
            h = evening.mixedRows(h, 1);
            h = mixed(h, sightSize);
            h = sights.mixedRows(h, 2);
            return glimpses.mixedRows(h, 3);
        }
    }

    /** THE TEXT, and the pit that it tells. */
    private static final class Text {
        private static final int MOST_BYTES = 150, MOST_BYTE = 127, MOST_FIGURES = 2;
        private static final int WORD = 0, NUMBER = 1, STOP = 2, WRONG = 3, END = 4;
        private static final int PIT = 0, LAYER = 1, PRICE = 2, LUMP = 3;
        /** How many numbers an ITEM has behind its word. */
        private static final int[] NUMBERS = {0, 2, 2, 3};

        private final byte[] bytes = new byte[MOST_BYTES];
        private final int[] numbers = new int[3];
        int size;
        private int next;
        private int start;
        private int value;

        int append(int c) {
            if (!within(c, 0, MOST_BYTE)) {
                return BAD;
            }
            if (size >= MOST_BYTES) {
                return FULL;
            }
            bytes[size] = (byte) c;
            size++;
            return size;
        }

        int empty() {
            int had = size;
            size = 0;
            return had;
        }

        /**
         * Tells a pit anew: how many ITEMS, or the FAULT, or the ITEM that is refused. A FAULT behind a
         * refused ITEM goes ahead of it, so all of the text is looked at.
         */
        int tell(Pit told) {
            told.reset();
            next = 0;
            int items = 0;
            int refused = NONE;
            for (int k = 0; k <= MOST_BYTES; k++) {
                int token = nextToken();
                if (token == END && items > 0) {
                    break;
                }
                int word = token == WORD ? wordHere() : NONE;
                if (word == NONE || (word == PIT) != (items == 0) || !takeItem(word)) {
                    return FAULTY - start;
                }
                if (refused == NONE && apply(told, word) < 0) {
                    refused = items;
                }
                items++;
            }
            return refused == NONE ? items : REFUSED - refused;
        }

        /** Takes the numbers of an ITEM and its end; false: the last token can't stand there. */
        private boolean takeItem(int word) {
            if (word < 0 || word >= NUMBERS.length) {
                return false;
            }
            for (int k = 0; k < NUMBERS[word] && k < numbers.length; k++) {
                if (nextToken() != NUMBER) {
                    return false;
                }
                numbers[k] = value;
            }
            return nextToken() == STOP;
        }

        /** Below 0: refused. */
        private int apply(Pit told, int word) {
            switch (word) {
                case LAYER: return told.setWeather(numbers[0], numbers[1]);
                case PRICE: return told.setPrice(numbers[0], numbers[1]);
                case LUMP: return told.addLump(numbers[0], numbers[1], numbers[2]);
                default: return 0;
            }
        }

        private int byteAt(int place) {
            return place >= 0 && place < size && place < bytes.length ? bytes[place] : NONE;
        }

        private boolean isLetter(int place) {
            return within(byteAt(place), 'a', 'z');
        }

        private boolean isFigure(int place) {
            return within(byteAt(place), '0', '9');
        }

        private int nextToken() {
            while (next < size && byteAt(next) == ' ') {
                next++;
            }
            start = next;
            if (next >= size) {
                return END;
            }
            if (isLetter(next)) {
                while (next < size && isLetter(next)) {
                    next++;
                }
                return WORD;
            }
            if (isFigure(next)) {
                return takeNumber();
            }
            next++;
            return byteAt(start) == ';' ? STOP : WRONG;
        }

        private int takeNumber() {
            value = 0;
            while (next < size && isFigure(next)) {
                if (next - start < MOST_FIGURES) {
                    value = 10 * value + byteAt(next) - '0';
                }
                next++;
            }
            return next - start > MOST_FIGURES ? WRONG : NUMBER;
        }

        private int wordHere() {
            if (isHere("pit")) {
                return PIT;
            }
            if (isHere("layer")) {
                return LAYER;
            }
            if (isHere("price")) {
                return PRICE;
            }
            return isHere("lump") ? LUMP : NONE;
        }

        private boolean isHere(String word) {
            if (next - start != word.length()) {
                return false;
            }
            for (int k = 0; k < word.length(); k++) {
                if (byteAt(start + k) != word.charAt(k)) {
                    return false;
                }
            }
            return true;
        }
    }

    /** What is planned: rows of LUMPS for the evening, the best for a purse, cuts of the seam. */
    private static final class Plans {
        private static final int SETS = 1 << LUMPS;

        private final int[] lengths = new int[LUMPS];
        /** Bits: behind how many WEATHERS of the evening a LUMP fits. */
        private final int[] fitsBehind = new int[LUMPS];
        /** For each set of LUMPS: rows of all of them that show how the evening begins. */
        private final int[] ways = new int[SETS];
        /** How many WEATHERS a set with ways shows. */
        private final int[] reached = new int[SETS];
        /** The fewest LUMPS that lack behind a set with ways; NONE: there is no such row. */
        private final int[] lacking = new int[SETS];
        private final int[] costs = new int[LUMPS];
        private final int[] worths = new int[LUMPS];
        int bestWorth;
        /** From each LAYER on: most AFTERNOONS, fewest LUMPS for them, the first LUMP's size. */
        private final int[] wholes = new int[LAYERS + 1];
        private final int[] parts = new int[LAYERS + 1];
        private final int[] firsts = new int[LAYERS + 1];

        /** How many rows show a whole evening, by the ways found last. */
        int rowsOf(int whole) {
            int rows = 0;
            for (int set = 0; set < SETS; set++) {
                if (ways[set] > 0 && reached[set] == whole) {
                    rows += ways[set];
                }
            }
            return rows;
        }

        /** Of the fewest LUMPS for a whole evening, by the ways found last: how many, or the i-th. */
        int ofFewest(int whole, int i) {
            findLacking(whole);
            int fewest = lacking[0];
            if (fewest == NONE || i >= fewest) {
                return NOT_SO_MANY;
            }
            return i == NONE ? fewest : inFirstRow(i);
        }

        void findWays(Pit pit) {
            for (int lump = 0; lump < LUMPS; lump++) {
                boolean usable = pit.hasLump(lump) && !pit.isBurnt(lump);
                lengths[lump] = usable ? pit.writeShown(lump) : 0;
                fitsBehind[lump] = usable ? placesFor(pit, lengths[lump]) : 0;
            }
            Arrays.fill(ways, 0);
            ways[0] = 1;
            reached[0] = 0;
            for (int set = 0; set < SETS; set++) {
                for (int lump = 0; lump < LUMPS && ways[set] > 0; lump++) {
                    if (canFollow(set, lump)) {
                        int more = set | 1 << lump;
                        ways[more] += ways[set];
                        reached[more] = reached[set] + lengths[lump];
                    }
                }
            }
        }

        /** Where in the evening the row that was written last fits, as bits. */
        private static int placesFor(Pit pit, int length) {
            int bits = 0;
            for (int place = 0; place + length <= pit.evening.size; place++) {
                int alike = 0;
                while (alike < length && pit.shownAt(alike) == pit.evening.at(place + alike, 0)) {
                    alike++;
                }
                if (alike == length) {
                    bits |= 1 << place;
                }
            }
            return bits;
        }

        private boolean canFollow(int set, int lump) {
            return (set >> lump & 1) == 0 && (fitsBehind[lump] >> reached[set] & 1) == 1;
        }

        /** A row of more LUMPS is a greater set, so that sets are settled from the greatest down. */
        private void findLacking(int whole) {
            for (int set = SETS - 1; set >= 0; set--) {
                lacking[set] = NONE;
                if (ways[set] > 0) {
                    lacking[set] = reached[set] == whole ? 0 : leastBehind(set);
                }
            }
        }

        private int leastBehind(int set) {
            int least = NONE;
            for (int lump = 0; lump < LUMPS; lump++) {
                if (canFollow(set, lump)) {
                    int rest = lacking[set | 1 << lump];
                    if (rest != NONE && (least == NONE || rest + 1 < least)) {
                        least = rest + 1;
                    }
                }
            }
            return least;
        }

        /** The i-th of the first row of fewest LUMPS. */
        private int inFirstRow(int i) {
            int set = 0;
            int lump = NONE;
            for (int k = 0; k <= i && k < LUMPS; k++) {
                lump = firstBehind(set);
                if (lump == NONE) {
                    return NOT_SO_MANY;
                }
                set |= 1 << lump;
            }
            return lump;
        }

        private int firstBehind(int set) {
            for (int lump = 0; lump < LUMPS; lump++) {
                if (canFollow(set, lump) && lacking[set | 1 << lump] == lacking[set] - 1) {
                    return lump;
                }
            }
            return NONE;
        }

        /** What each LUMP costs and is worth; one that is not there, nothing. */
        void weigh(Pit pit) {
            for (int lump = 0; lump < LUMPS; lump++) {
                boolean there = pit.hasLump(lump);
                costs[lump] = there ? 2 * pit.lumps.at(lump, Pit.SIZE) : 0;
                worths[lump] = there ? pit.worth(lump) : 0;
            }
        }

        int worthOf(int lump) {
            return lump >= 0 && lump < worths.length ? worths[lump] : 0;
        }

        /** Of the LUMPS weighed last, which are best, as bits; how much they are worth is bestWorth. */
        int bestFor(int purse, int burnt) {
            int bits = 0;
            bestWorth = 0;
            for (int set = 0; set < SETS; set++) {
                if ((set & burnt) == 0 && sumOver(costs, set) <= purse) {
                    int worth = sumOver(worths, set);
                    if (worth > bestWorth) {
                        bestWorth = worth;
                        bits = set;
                    }
                }
            }
            return bits;
        }

        private static int sumOver(int[] row, int set) {
            int sum = 0;
            for (int k = 0; k < row.length; k++) {
                if ((set >> k & 1) == 1) {
                    sum += row[k];
                }
            }
            return sum;
        }

        int ofCut(Pit pit, int c, int i) {
            findCuts(pit.weathers, c);
            if (i == ALL_AFTERNOONS) {
                return wholes[0];
            }
            if (i == NONE) {
                return parts[0];
            }
            if (i >= parts[0]) {
                return NOT_SO_MANY;
            }
            int place = 0;
            for (int k = 0; k < i && place < LAYERS; k++) {
                place += firsts[place];
            }
            return place < LAYERS ? firsts[place] : NOT_SO_MANY;
        }

        private void findCuts(int[] weathers, int c) {
            wholes[LAYERS] = 0;
            parts[LAYERS] = 0;
            for (int from = LAYERS - 1; from >= 0; from--) {
                wholes[from] = NONE;
                for (int size = 1; size <= c && from + size <= LAYERS; size++) {
                    int rest = from + size;
                    int whole = wholeWithin(weathers, from, rest) + wholes[rest];
                    int part = 1 + parts[rest];
                    if (whole > wholes[from] || whole == wholes[from] && part < parts[from]) {
                        wholes[from] = whole;
                        parts[from] = part;
                        firsts[from] = size;
                    }
                }
            }
        }

        /** How many AFTERNOONS lie whole between two cuts. */
        private static int wholeWithin(int[] weathers, int from, int to) {
            int whole = 0;
            boolean begun = false;
            for (int l = Math.max(from, 0); l < to && l < weathers.length; l++) {
                begun = begun || l == 0 || weathers[l] != weathers[l - 1];
                boolean ends = l + 1 >= weathers.length || weathers[l] != weathers[l + 1];
                if (begun && ends) {
                    whole++;
                }
            }
            return whole;
        }
    }

    /** What can be said of an unknown lump, and of somebody in the wood, by what was seen. */
    private static final class Clues {
        private final boolean[] fitting = new boolean[KINDS * LAYERS];
        private final int[] alike = new int[WEATHERS + 1];
        int firstFit;
        private final boolean[] open = new boolean[LAYERS * CELLS];
        private final long[] waysTo = new long[LAYERS * CELLS];
        private final long[] waysOn = new long[LAYERS * CELLS];

        /** Marks the pairs of a KIND and a LAYER that fit: how many; the first is kept in firstFit. */
        int markFits(Pit pit) {
            int found = 0;
            firstFit = NONE;
            for (int pair = 0; pair < fitting.length; pair++) {
                int a = pair % LAYERS;
                fitting[pair] = a + pit.sightSize <= LAYERS && fitsAll(pit, pair / LAYERS, a);
                if (fitting[pair]) {
                    found++;
                    if (firstFit == NONE) {
                        firstFit = pair;
                    }
                }
            }
            return found;
        }

        private static boolean fitsAll(Pit pit, int kind, int a) {
            for (int k = 0; k < pit.sights.size; k++) {
                int shown = pit.weatherOfCut(kind, a, pit.sightSize, pit.sights.at(k, 0));
                if (shown != pit.sights.at(k, 1)) {
                    return false;
                }
            }
            return true;
        }

        /** The STEP that parts the pairs marked best. */
        int nextStep(Pit pit) {
            int step = NONE;
            int fewest = 0;
            for (int t = 0; t <= MOST_SEEN_STEP; t++) {
                int most = mostAlike(pit, t);
                if (step == NONE || most < fewest) {
                    step = t;
                    fewest = most;
                }
            }
            return step;
        }

        /** How many of the pairs marked, at most, show alike in a STEP; smoke and ash are counted last. */
        private int mostAlike(Pit pit, int t) {
            Arrays.fill(alike, 0);
            int most = 0;
            for (int pair = 0; pair < fitting.length; pair++) {
                if (fitting[pair]) {
                    int weather = pit.weatherOfCut(pair / LAYERS, pair % LAYERS, pit.sightSize, t);
                    int group = isWeather(weather) ? weather : WEATHERS;
                    alike[group]++;
                    most = Math.max(most, alike[group]);
                }
            }
            return most;
        }

        /** How many WALKS there are; the ways to each CELL and on from it are kept. */
        long countWalks(Pit pit) {
            closeCells(pit.glimpses);
            for (int cell = 0; cell < CELLS; cell++) {
                waysTo[cell] = open[cell] ? 1 : 0;
                int last = (LAYERS - 1) * CELLS + cell;
                waysOn[last] = open[last] ? 1 : 0;
            }
            for (int layer = 1; layer < LAYERS; layer++) {
                spread(waysTo, layer - 1, layer);
                spread(waysOn, LAYERS - layer, LAYERS - layer - 1);
            }
            long all = 0;
            for (int cell = 0; cell < CELLS; cell++) {
                all += waysOn[cell];
            }
            return all;
        }

        private void closeCells(Table glimpses) {
            for (int here = 0; here < open.length; here++) {
                open[here] = true;
            }
            for (int k = 0; k < glimpses.size; k++) {
                int layer = glimpses.at(k, 0);
                boolean there = glimpses.at(k, 2) == 1;
                for (int cell = 0; cell < CELLS && isLayer(layer); cell++) {
                    if ((cell == glimpses.at(k, 1)) != there) {
                        open[layer * CELLS + cell] = false;
                    }
                }
            }
        }

        /** Ways of one LAYER go on to the one beside it, to the same CELL and those beside. */
        private void spread(long[] ways, int from, int to) {
            if (!isLayer(from) || !isLayer(to)) {
                return;
            }
            int base = from * CELLS;
            for (int cell = 0; cell < CELLS; cell++) {
                long sum = ways[base + cell];
                sum += cell >= SIDE ? ways[base + cell - SIDE] : 0;
                sum += cell < CELLS - SIDE ? ways[base + cell + SIDE] : 0;
                sum += cell % SIDE > 0 ? ways[base + cell - 1] : 0;
                sum += cell % SIDE < SIDE - 1 ? ways[base + cell + 1] : 0;
                int there = to * CELLS + cell;
                ways[there] = open[there] ? sum : 0;
            }
        }

        /** CELLS of a LAYER through which a WALK counted last goes, as bits. */
        int cellsIn(int layer) {
            int bits = 0;
            for (int cell = 0; cell < CELLS && isLayer(layer); cell++) {
                int here = layer * CELLS + cell;
                if (waysTo[here] > 0 && waysOn[here] > 0) {
                    bits |= 1 << cell;
                }
            }
            return bits;
        }

        /** The LAYER of most CELLS in the WALKS counted last. */
        int widestLayer() {
            int widest = 0;
            for (int layer = 1; layer < LAYERS; layer++) {
                if (Integer.bitCount(cellsIn(layer)) > Integer.bitCount(cellsIn(widest))) {
                    widest = layer;
                }
            }
            return widest;
        }
    }
}
