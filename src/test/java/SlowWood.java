import java.util.ArrayDeque;
import java.util.ArrayList;
import java.util.Arrays;
import java.util.Deque;
import java.util.HashMap;
import java.util.List;
import java.util.Map;
import java.util.regex.Matcher;
import java.util.regex.Pattern;

/**
 * The document once more, told in another way: everything is tried out, nothing is clever, so that an
 * error of CoalWood is not likely to be made here too.
 */
final class SlowWood {
    private static final int NONE = -1, BAD = -2, NO = -3, FULL = -4;

    private record Lump(int kind, int a, int n) {
    }

    private record Past(int burnt, int money, int clock) {
    }

    /** What images keep. */
    private static final class State {
        int[] weathers = new int[12];
        int[] prices = {1, 1, 1, 1, 1, 1};
        List<Lump> lumps = new ArrayList<>();
        int burnt;
        int money;
        int clock;
        Deque<Past> pasts = new ArrayDeque<>();
        List<Integer> evening = new ArrayList<>();
        int size = 1;
        List<int[]> seen = new ArrayList<>();
        List<int[]> glimpses = new ArrayList<>();

        State copy() {
            State s = new State();
            s.weathers = weathers.clone();
            s.prices = prices.clone();
            s.lumps = new ArrayList<>(lumps);
            s.burnt = burnt;
            s.money = money;
            s.clock = clock;
            s.pasts = new ArrayDeque<>(pasts);
            s.evening = new ArrayList<>(evening);
            s.size = size;
            s.seen = new ArrayList<>(seen);
            s.glimpses = new ArrayList<>(glimpses);
            return s;
        }
    }

    private State s = new State();
    private final State[] images = new State[2];
    private final StringBuilder text = new StringBuilder();
    private long above = 0;
    private long below = 1;
    private final int[] status = new int[3];

    private int bad() {
        status[0]++;
        return BAD;
    }

    private int no() {
        status[1]++;
        return NO;
    }

    private int full() {
        status[2]++;
        return FULL;
    }

    private static boolean in(int x, int least, int most) {
        return least <= x && x <= most;
    }

    private boolean isLump(int i) {
        return in(i, 0, s.lumps.size() - 1);
    }

    /** Own layers, step by step, of a kind: each row is written out from the one above it. */
    private static List<Integer> own(int kind, int n) {
        List<Integer> row = new ArrayList<>();
        switch (kind) {
            case 0:
                for (int k = 0; k < n; k++) {
                    row.add(k);
                }
                return row;
            case 1:
                for (int k : own(0, n)) {
                    row.add(0, k);
                }
                return row;
            case 2:
                List<Integer> plain = own(0, n);
                for (int k = 0; k < plain.size(); k += 2) {
                    row.add(plain.get(k));
                }
                return row;
            case 3:
                for (int k : own(0, n)) {
                    row.add(k);
                    row.add(k);
                }
                return row;
            case 4:
                row.add(NONE);
                row.addAll(own(1, n));
                return row;
            default:
                List<Integer> damp = own(3, n);
                for (int k = 0; k < damp.size(); k++) {
                    row.add(k % 2 == 0 ? damp.get(k) : NONE);
                }
                return row;
        }
    }

    private static int layerOf(int kind, int a, int n, int t) {
        List<Integer> row = own(kind, n);
        return t < row.size() && row.get(t) != NONE ? a + row.get(t) : NONE;
    }

    /** The weather that a lump would show; NONE: smoke or ash. */
    int weatherOf(int kind, int a, int n, int t) {
        int layer = layerOf(kind, a, n, t);
        return layer == NONE ? NONE : s.weathers[layer];
    }

    private int weatherOf(int lump, int t) {
        Lump l = s.lumps.get(lump);
        return weatherOf(l.kind, l.a, l.n, t);
    }

    private int steps(int lump) {
        Lump l = s.lumps.get(lump);
        return own(l.kind, l.n).size();
    }

    /** The weathers that a lump there is shows. */
    List<Integer> shown(int lump) {
        List<Integer> row = new ArrayList<>();
        for (int t = 0; t < steps(lump); t++) {
            if (weatherOf(lump, t) != NONE) {
                row.add(weatherOf(lump, t));
            }
        }
        return row;
    }

    private int worth(int lump) {
        int sum = 0;
        for (int w : shown(lump)) {
            sum += s.prices[w];
        }
        return sum;
    }

    int pit() {
        int had = s.lumps.size();
        s = new State();
        return had;
    }

    int layer(int l, int w) {
        if (!in(l, 0, 11) || !in(w, 0, 5)) {
            return bad();
        }
        int was = s.weathers[l];
        s.weathers[l] = w;
        return was;
    }

    int price(int w, int n) {
        if (!in(w, 0, 5) || !in(n, 0, 9)) {
            return bad();
        }
        int was = s.prices[w];
        s.prices[w] = n;
        return was;
    }

    int lump(int kind, int a, int n) {
        if (!in(kind, 0, 5) || !in(a, 0, 11) || !in(n, 1, 6) || a + n > 12) {
            return bad();
        }
        if (s.lumps.size() == 8) {
            return full();
        }
        s.lumps.add(new Lump(kind, a, n));
        s.pasts.clear();
        return s.lumps.size() - 1;
    }

    int type(int c) {
        if (!in(c, 0, 127)) {
            return bad();
        }
        if (text.length() == 150) {
            return full();
        }
        text.append((char) c);
        return text.length();
    }

    int clear() {
        int had = text.length();
        text.setLength(0);
        return had;
    }

    private record Token(String text, int place) {
    }

    private List<Token> tokens() {
        List<Token> tokens = new ArrayList<>();
        Matcher m = Pattern.compile("[a-z]+|[0-9]+|[^ ]", Pattern.DOTALL).matcher(text);
        while (m.find()) {
            tokens.add(new Token(m.group(), m.start()));
        }
        tokens.add(new Token("end", text.length()));
        return tokens;
    }

    int read() {
        List<Token> tokens = tokens();
        List<int[]> items = new ArrayList<>();
        List<String> words = List.of("pit", "layer", "price", "lump");
        int k = 0;
        while (k < tokens.size() - 1 || items.isEmpty()) {
            Token word = tokens.get(k);
            int kind = k == tokens.size() - 1 ? -1 : words.indexOf(word.text);
            if (kind < 0 || (kind == 0) != items.isEmpty()) {
                return -10 - word.place;
            }
            int numbers = kind == 0 ? 0 : kind == 3 ? 3 : 2;
            int[] item = new int[4];
            item[0] = kind;
            for (int j = 1; j <= numbers; j++) {
                Token number = tokens.get(k + j);
                if (!number.text.matches("[0-9]{1,2}")) {
                    return -10 - number.place;
                }
                item[j] = Integer.parseInt(number.text);
            }
            Token stop = tokens.get(k + numbers + 1);
            if (!stop.text.equals(";")) {
                return -10 - stop.place;
            }
            items.add(item);
            k += numbers + 2;
        }
        return tell(items);
    }

    private int tell(List<int[]> items) {
        State old = s;
        int[] counted = status.clone();
        s = new State();
        for (int k = 0; k < items.size(); k++) {
            int[] item = items.get(k);
            int answer = item[0] == 0 ? pit()
                : item[0] == 1 ? layer(item[1], item[2])
                : item[0] == 2 ? price(item[1], item[2])
                : lump(item[1], item[2], item[3]);
            if (answer < 0) {
                s = old;
                System.arraycopy(counted, 0, status, 0, 3);
                return -1000 - k;
            }
        }
        return items.size();
    }

    int burn(int i) {
        if (!isLump(i)) {
            return bad();
        }
        if ((s.burnt & 1 << i) != 0) {
            return no();
        }
        s.pasts.push(new Past(s.burnt, s.money, s.clock));
        s.burnt |= 1 << i;
        s.money += worth(i);
        s.clock += steps(i);
        return worth(i);
    }

    int undo() {
        if (s.pasts.isEmpty()) {
            return no();
        }
        Past past = s.pasts.pop();
        s.burnt = past.burnt;
        s.money = past.money;
        s.clock = past.clock;
        return s.money;
    }

    int of(int i, int what) {
        if (!isLump(i) || !in(what, 0, 6)) {
            return bad();
        }
        Lump l = s.lumps.get(i);
        int[] all = {l.kind, l.a, l.n, s.burnt >> i & 1, steps(i), shown(i).size(), worth(i)};
        return all[what];
    }

    int shows(int i, int t) {
        if (!isLump(i) || !in(t, 0, 20)) {
            return bad();
        }
        Lump l = s.lumps.get(i);
        return layerOf(l.kind, l.a, l.n, t);
    }

    private int firstClash(int i, int j, int d) {
        for (int t = 0; t < 60; t++) {
            int one = weatherOf(i, t);
            int other = t < d ? NONE : weatherOf(j, t - d);
            if (one != NONE && other != NONE && one != other) {
                return t;
            }
        }
        return NONE;
    }

    int clash(int i, int j, int d) {
        return isLump(i) && isLump(j) && i != j && in(d, 0, 20) ? firstClash(i, j, d) : bad();
    }

    int agree(int i) {
        if (!isLump(i)) {
            return bad();
        }
        int bits = 0;
        for (int j = 0; j < s.lumps.size(); j++) {
            bits |= j != i && firstClash(i, j, 0) == NONE ? 1 << j : 0;
        }
        return bits;
    }

    int evening(int w) {
        if (!in(w, 0, 5)) {
            return bad();
        }
        if (s.evening.size() == 10) {
            return full();
        }
        s.evening.add(w);
        return s.evening.size();
    }

    int dark() {
        int had = s.evening.size();
        s.evening.clear();
        return had;
    }

    /** All rows, the first ones first. */
    private List<List<Integer>> allRows() {
        List<List<Integer>> rows = new ArrayList<>();
        List<List<Integer>> shows = new ArrayList<>();
        for (int k = 0; k < s.lumps.size(); k++) {
            shows.add(shown(k));
        }
        findRows(new ArrayList<>(), 0, shows, rows);
        return rows;
    }

    private void findRows(List<Integer> row, int done, List<List<Integer>> shows, List<List<Integer>> rows) {
        if (done == s.evening.size()) {
            rows.add(new ArrayList<>(row));
            return;
        }
        for (int k = 0; k < shows.size(); k++) {
            List<Integer> show = shows.get(k);
            int then = done + show.size();
            boolean free = (s.burnt >> k & 1) == 0 && !row.contains(k);
            if (free && then <= s.evening.size() && s.evening.subList(done, then).equals(show)) {
                row.add(k);
                findRows(row, then, shows, rows);
                row.remove(row.size() - 1);
            }
        }
    }

    int fewest(int i) {
        if (i < -1) {
            status[0]++;
            return -10;
        }
        List<Integer> best = null;
        for (List<Integer> row : allRows()) {
            if (best == null || row.size() < best.size()) {
                best = row;
            }
        }
        if (best == null || i >= best.size()) {
            return -5;
        }
        return i == NONE ? best.size() : best.get(i);
    }

    int rows() {
        return allRows().size();
    }

    int best(int purse, int what) {
        if (!in(purse, 0, 99) || !in(what, 0, 1)) {
            return bad();
        }
        int bestBits = 0;
        int bestWorth = 0;
        for (int bits = (1 << s.lumps.size()) - 1; bits >= 0; bits--) {
            int cost = 0;
            int worth = 0;
            for (int k = 0; k < s.lumps.size(); k++) {
                if ((bits >> k & 1) == 1) {
                    cost += 2 * s.lumps.get(k).n;
                    worth += worth(k);
                }
            }
            if (cost <= purse && (bits & s.burnt) == 0 && worth >= bestWorth) {
                bestWorth = worth;
                bestBits = bits;
            }
        }
        return what == 0 ? bestBits : bestWorth;
    }

    /** Every way to part the seam, as the bits of the places where it is cut. */
    int cut(int c, int i) {
        if (!in(c, 1, 6) || i < -2) {
            status[0]++;
            return -10;
        }
        int most = -1;
        List<Integer> best = null;
        for (int cuts = 0; cuts < 1 << 11; cuts++) {
            List<Integer> sizes = sizes(cuts);
            if (sizes.stream().anyMatch(size -> size > c)) {
                continue;
            }
            int whole = whole(cuts);
            boolean better = whole > most || whole == most && isAhead(sizes, best);
            if (better) {
                most = whole;
                best = sizes;
            }
        }
        if (i == -2) {
            return most;
        }
        return i == NONE ? best.size() : i < best.size() ? best.get(i) : -5;
    }

    private static boolean isAhead(List<Integer> one, List<Integer> other) {
        if (one.size() != other.size()) {
            return one.size() < other.size();
        }
        for (int k = 0; k < one.size(); k++) {
            if (!one.get(k).equals(other.get(k))) {
                return one.get(k) < other.get(k);
            }
        }
        return false;
    }

    private static List<Integer> sizes(int cuts) {
        List<Integer> sizes = new ArrayList<>();
        int size = 1;
        for (int l = 1; l < 12; l++) {
            if ((cuts >> l - 1 & 1) == 1) {
                sizes.add(size);
                size = 0;
            }
            size++;
        }
        sizes.add(size);
        return sizes;
    }

    /** An afternoon is whole if no cut falls between two of its layers. */
    private int whole(int cuts) {
        int whole = 0;
        int l = 0;
        while (l < 12) {
            int end = l;
            boolean isWhole = true;
            while (end + 1 < 12 && s.weathers[end + 1] == s.weathers[l]) {
                isWhole &= (cuts >> end & 1) == 0;
                end++;
            }
            whole += isWhole ? 1 : 0;
            l = end + 1;
        }
        return whole;
    }

    int seen(int n, int t, int w) {
        if (!in(n, 1, 6) || !in(t, 0, 12) || !in(w, -1, 5)) {
            return bad();
        }
        if (s.seen.size() == 8) {
            return full();
        }
        s.seen.add(new int[] {t, w});
        s.size = n;
        return s.seen.size();
    }

    int forget() {
        int had = s.seen.size() + s.glimpses.size();
        s.seen.clear();
        s.glimpses.clear();
        s.size = 1;
        return had;
    }

    private List<Integer> pairs() {
        List<Integer> pairs = new ArrayList<>();
        for (int kind = 0; kind < 6; kind++) {
            for (int a = 0; a + s.size <= 12; a++) {
                boolean so = true;
                for (int[] one : s.seen) {
                    so &= weatherOf(kind, a, s.size, one[0]) == one[1];
                }
                if (so) {
                    pairs.add(12 * kind + a);
                }
            }
        }
        return pairs;
    }

    int fits(int what) {
        if (!in(what, 0, 1)) {
            status[0]++;
            return -10;
        }
        List<Integer> pairs = pairs();
        return what == 0 ? pairs.size() : pairs.isEmpty() ? NONE : pairs.get(0);
    }

    int look() {
        List<Integer> pairs = pairs();
        int best = NONE;
        int fewest = Integer.MAX_VALUE;
        for (int t = 0; t <= 12 && !pairs.isEmpty(); t++) {
            Map<Integer, Integer> groups = new HashMap<>();
            for (int pair : pairs) {
                groups.merge(weatherOf(pair / 12, pair % 12, s.size, t), 1, Integer::sum);
            }
            int most = groups.values().stream().max(Integer::compare).get();
            if (most < fewest) {
                fewest = most;
                best = t;
            }
        }
        return best;
    }

    int glimpse(int layer, int cell, int is) {
        if (!in(layer, 0, 11) || !in(cell, 0, 8) || !in(is, 0, 1)) {
            return bad();
        }
        if (s.glimpses.size() == 6) {
            return full();
        }
        s.glimpses.add(new int[] {layer, cell, is});
        return s.glimpses.size();
    }

    /** How many walks there are with one glimpse more; each walk is told from its last day back. */
    private long walksWith(int layer, int cell) {
        List<int[]> all = new ArrayList<>(s.glimpses);
        if (layer != NONE) {
            all.add(new int[] {layer, cell, 1});
        }
        Map<Integer, Long> known = new HashMap<>();
        long sum = 0;
        for (int c = 0; c < 9; c++) {
            sum += walksTo(11, c, all, known);
        }
        return sum;
    }

    private static long walksTo(int layer, int cell, List<int[]> all, Map<Integer, Long> known) {
        for (int[] glimpse : all) {
            if (glimpse[0] == layer && (glimpse[1] == cell) != (glimpse[2] == 1)) {
                return 0;
            }
        }
        if (layer == 0) {
            return 1;
        }
        Long before = known.get(layer * 9 + cell);
        if (before != null) {
            return before;
        }
        long sum = 0;
        for (int c = 0; c < 9; c++) {
            if (Math.abs(c / 3 - cell / 3) + Math.abs(c % 3 - cell % 3) <= 1) {
                sum += walksTo(layer - 1, c, all, known);
            }
        }
        known.put(layer * 9 + cell, sum);
        return sum;
    }

    long walks() {
        return walksWith(NONE, NONE);
    }

    private int cells(int layer) {
        int bits = 0;
        for (int c = 0; c < 9; c++) {
            bits |= walksWith(layer, c) > 0 ? 1 << c : 0;
        }
        return bits;
    }

    int places(int layer) {
        return in(layer, 0, 11) ? cells(layer) : bad();
    }

    int leftTo() {
        int best = NONE;
        int most = 0;
        for (int layer = 0; layer < 12; layer++) {
            int cells = Integer.bitCount(cells(layer));
            if (cells > most) {
                most = cells;
                best = layer;
            }
        }
        return best;
    }

    /** The chance to be alight still in the first step that shows it. */
    int odds(int i, int w, int c) {
        if (!isLump(i) || !in(w, 0, 5) || !in(c, 0, 10)) {
            return bad();
        }
        long under = 1;
        long alive = 1;
        long shown = 0;
        for (int t = 0; t < steps(i) && shown == 0; t++) {
            alive *= 10 - c;
            under *= 10;
            if (weatherOf(i, t) == w) {
                shown = alive;
                break;
            }
        }
        long by = java.math.BigInteger.valueOf(shown).gcd(java.math.BigInteger.valueOf(under)).longValue();
        above = shown / by;
        below = under / by;
        return 1;
    }

    int drawn(int seed, int n) {
        if (!in(seed, 0, 999999) || !in(n, 0, 60)) {
            return bad();
        }
        long x = seed;
        int sum = 0;
        for (int k = 0; k < n; k++) {
            x = x * 1103515245L + 12345L & 0x7fffffffL;
            int lump = (int) (x >> 16) & 7;
            sum += isLump(lump) ? worth(lump) : 0;
        }
        return sum;
    }

    long part(int what) {
        return what == 0 ? above : what == 1 ? below : bad();
    }

    int image(int i) {
        if (!in(i, 0, 1)) {
            return bad();
        }
        images[i] = s.copy();
        return 1;
    }

    int from(int i) {
        if (!in(i, 0, 1)) {
            return bad();
        }
        if (images[i] == null) {
            return no();
        }
        s = images[i].copy();
        return 1;
    }

    int status(int what) {
        if (!in(what, 0, 2)) {
            status[0]++;
            return -1;
        }
        return status[what];
    }

    private int[] counts() {
        return new int[] {
            s.lumps.size(), s.burnt, s.money, s.clock, s.evening.size(), s.seen.size(), s.glimpses.size(),
            s.pasts.size(), text.length()
        };
    }

    int count(int what) {
        return in(what, 0, 8) ? counts()[what] : bad();
    }

    long digest() {
        List<Long> all = new ArrayList<>();
        Arrays.stream(counts()).forEach(v -> all.add((long) v));
        Arrays.stream(s.weathers).forEach(v -> all.add((long) v));
        Arrays.stream(s.prices).forEach(v -> all.add((long) v));
        for (Lump l : s.lumps) {
            all.addAll(List.of((long) l.kind, (long) l.a, (long) l.n));
        }
        s.evening.forEach(v -> all.add((long) v));
        all.add((long) s.size);
        s.seen.forEach(row -> Arrays.stream(row).forEach(v -> all.add((long) v)));
        s.glimpses.forEach(row -> Arrays.stream(row).forEach(v -> all.add((long) v)));
        all.add(above);
        all.add(below);
        long h = 1091;
        for (long v : all) {
            h = 31 * h + v;
        }
        return h;
    }
}
