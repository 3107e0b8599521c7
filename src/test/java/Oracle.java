import java.util.ArrayDeque;
import java.util.ArrayList;
import java.util.Arrays;
import java.util.HashMap;
import java.util.List;
import java.util.Map;
import java.util.regex.Matcher;
import java.util.regex.Pattern;

/** The document once more, by other ways than the program's: slow, with the whole Java library. */
final class Oracle {
    private static final int NONE = -1, BAD = -2, NO = -3, FULL = -4, QUARREL = -5;
    private static final int[][] STEPS = {{-1, 0}, {-1, 1}, {0, 1}, {1, 1}, {1, 0}, {1, -1}, {0, -1}, {-1, -1}};
    private static final int[][] PUT_RANGES = {{0, 7}, {1, 20}, {1, 999}, {1, 9}, {1, 99}, {1, 99}};
    private static final List<String> FACT_WORDS = List.of("cuts", "wood", "lichen", "find", "map");
    private static final List<String> SIGN_WORDS = List.of("at", "free", "ice");

    private static final class World {
        int[][] surfaces = new int[3][64];
        List<int[]> cliffs = new ArrayList<>();
        List<int[]> boulders = new ArrayList<>();
        List<int[]> scratches = new ArrayList<>();
        int[] numbers = {1, 3, 50, 2, 10, 30};
        int ridges;
        List<int[]> facts = new ArrayList<>();
        List<int[]> signs = new ArrayList<>();
        int[] areas = new int[20];
        int[] heights = new int[21];

        World copy() {
            World w = new World();
            for (int s = 0; s < 3; s++) {
                w.surfaces[s] = surfaces[s].clone();
            }
            w.cliffs = new ArrayList<>(cliffs);
            w.boulders = new ArrayList<>(boulders);
            w.scratches = new ArrayList<>(scratches);
            w.numbers = numbers.clone();
            w.ridges = ridges;
            w.facts = new ArrayList<>(facts);
            w.signs = new ArrayList<>(signs);
            w.areas = areas.clone();
            w.heights = heights.clone();
            return w;
        }
    }

    private World w = new World();
    private final World[] images = new World[2];
    private StringBuilder text = new StringBuilder();

    long call(String name, long[] a) {
        int[] n = new int[5];
        for (int i = 0; i < a.length; i++) {
            n[i] = (int) a[i];
        }
        switch (name) {
            case "surface": return surface(n[0], n[1], n[2]);
            case "slope": return slope(n[0], n[1], n[2], n[3]);
            case "flow": return out(n[0], 2) || out(n[1], 63) ? BAD : flow(n[0], n[1]);
            case "cliff": return found(w.cliffs, 8, n[0], 63, n[1], 5);
            case "boulder": return found(w.boulders, 10, n[0], 63, n[1], 5);
            case "fits": return out(n[0], w.boulders.size() - 1) ? BAD : fits(n[0]);
            case "steps": return out(n[0], w.boulders.size() - 1) || out(n[1], w.cliffs.size() - 1) ? BAD
                    : steps(w.cliffs.get(n[1])[0], w.boulders.get(n[0])[0]);
            case "home": return out(n[0], w.boulders.size() - 1) ? BAD : home(n[0]);
            case "upstream": return out(n[0], 63) ? BAD : upstream(n[0]);
            case "scratch": return found(w.scratches, 10, n[0], 63, n[1], 15);
            case "put": return put(n[0], n[1]);
            case "may": return out(n[0], w.scratches.size() - 1) ? BAD : may(n[0]);
            case "laid": return laid(n[0]);
            case "ridge": return w.ridges == 8 ? FULL : w.ridges++;
            case "fact": return fact(n[0], n[1], n[2], n[3], n[4]);
            case "age": return age(n[0], n[1], n[2]);
            case "fewest": return fewest();
            case "sure": return sure(n[0], n[1]);
            case "core": return core();
            case "parted": return parted();
            default: return callMore(name, a, n);
        }
    }

    private long callMore(String name, long[] a, int[] n) {
        switch (name) {
            case "sign": return sign(n[0], n[1], n[2], n[3]);
            case "stand": return stand(n[0]);
            case "area": return change(w.areas, n[0], n[1], 999);
            case "lake": return lake(n[0], n[1], n[2]);
            case "shore": return shore(n[0], n[1], n[2], n[3]);
            case "zone": return change(w.heights, n[0], n[1], 60);
            case "ice": return out(n[0], 60) || out(n[1], 60) ? -10 : ice(n[0], n[1]);
            case "warm": return warm(n[0], n[1], n[2]);
            case "type": return type(a[0], n[1]);
            case "clear": return clear();
            case "fault": return fault();
            case "read": return read();
            case "image": return image(n[0]);
            case "from": return from(n[0]);
            case "count": return out(n[0], 6) ? BAD : counts()[n[0]];
            case "digest": return digest();
            default: throw new IllegalStateException(name);
        }
    }

    private static boolean out(int v, int most) {
        return v < 0 || v > most;
    }

    private static int change(int[] row, int at, int v, int most) {
        if (out(at, row.length - 1) || out(v, most)) {
            return BAD;
        }
        int was = row[at];
        row[at] = v;
        return was;
    }

    private static int found(List<int[]> list, int limit, int a, int mostA, int b, int mostB) {
        if (out(a, mostA) || out(b, mostB)) {
            return BAD;
        }
        if (list.size() == limit) {
            return FULL;
        }
        list.add(new int[] {a, b});
        return list.size() - 1;
    }

    // ---- the valley

    private int surface(int stage, int place, int v) {
        return out(stage, 2) ? BAD : change(w.surfaces[stage], place, v, 99);
    }

    private int slope(int stage, int row, int v, int step) {
        if (out(stage, 2) || out(row, 7) || out(v, 99) || out(step + 50, 100) || step > 50) {
            return BAD;
        }
        int height = v;
        for (int column = 0; column < 8; column++) {
            w.surfaces[stage][8 * row + column] = height;
            height = Math.min(99, Math.max(0, height - step));
        }
        return 1;
    }

    private int flow(int stage, int place) {
        List<int[]> lower = new ArrayList<>();
        for (int d = 0; d < 8; d++) {
            int row = place / 8 + STEPS[d][0];
            int column = place % 8 + STEPS[d][1];
            if (!out(row, 7) && !out(column, 7)) {
                int height = w.surfaces[stage][8 * row + column];
                if (height < w.surfaces[stage][place]) {
                    lower.add(new int[] {height, d});
                }
            }
        }
        lower.sort((x, y) -> x[0] != y[0] ? x[0] - y[0] : x[1] - y[1]);
        return lower.isEmpty() ? NONE : lower.get(0)[1];
    }

    /** A search forward through pairs of stage and place: a step costs one, the next stage nothing. */
    private int steps(int start, int goal) {
        int[] cost = new int[192];
        Arrays.fill(cost, Integer.MAX_VALUE);
        ArrayDeque<Integer> open = new ArrayDeque<>();
        cost[start] = 0;
        open.add(start);
        while (!open.isEmpty()) {
            int at = open.poll();
            int stage = at / 64;
            int place = at % 64;
            if (stage < 2 && cost[at] < cost[at + 64]) {
                cost[at + 64] = cost[at];
                open.addFirst(at + 64);
            }
            int d = flow(stage, place);
            if (d != NONE) {
                int to = at + 8 * STEPS[d][0] + STEPS[d][1];
                if (cost[at] + 1 < cost[to]) {
                    cost[to] = cost[at] + 1;
                    open.addLast(to);
                }
            }
        }
        return cost[128 + goal] == Integer.MAX_VALUE ? NONE : cost[128 + goal];
    }

    private int fits(int boulder) {
        int bits = 0;
        for (int c = 0; c < w.cliffs.size(); c++) {
            boolean sort = w.cliffs.get(c)[1] == w.boulders.get(boulder)[1];
            if (sort && steps(w.cliffs.get(c)[0], w.boulders.get(boulder)[0]) != NONE) {
                bits += 1 << c;
            }
        }
        return bits;
    }

    private int home(int boulder) {
        int best = NONE;
        int fits = fits(boulder);
        for (int c = w.cliffs.size() - 1; c >= 0; c--) {
            if ((fits >> c & 1) == 1) {
                int goal = w.boulders.get(boulder)[0];
                if (best < 0 || steps(w.cliffs.get(c)[0], goal) <= steps(w.cliffs.get(best)[0], goal)) {
                    best = c;
                }
            }
        }
        return best;
    }

    private int upstream(int place) {
        int many = 0;
        for (int from = 0; from < 64; from++) {
            many += steps(from, place) == NONE ? 0 : 1;
        }
        return many;
    }

    private int put(int what, int v) {
        if (out(what, 5) || v < PUT_RANGES[what][0] || v > PUT_RANGES[what][1]) {
            return BAD;
        }
        int[] next = w.numbers.clone();
        next[what] = v;
        if (next[4] > next[5]) {
            return BAD;
        }
        int was = w.numbers[what];
        w.numbers = next;
        return was;
    }

    private int may(int scratch) {
        int bits = 0;
        for (int stage = 0; stage < 3; stage++) {
            int d = flow(stage, w.scratches.get(scratch)[0]);
            for (int turn = -w.numbers[0]; turn <= w.numbers[0] && d >= 0; turn++) {
                if ((w.scratches.get(scratch)[1] + turn + 16) % 16 == 2 * d) {
                    bits |= 1 << stage;
                }
            }
        }
        return bits;
    }

    /** Every row of stages by itself, as far as what stands in it holds. */
    private int laid(int what) {
        if (what != NONE && out(what, w.scratches.size() - 1)) {
            return -10;
        }
        int[] mays = new int[w.scratches.size()];
        for (int i = 0; i < mays.length; i++) {
            mays[i] = may(i);
        }
        List<int[]> rows = new ArrayList<>();
        lay(new int[mays.length], 0, mays, rows);
        if (what == NONE) {
            return rows.size();
        }
        return rows.isEmpty() ? NONE : rows.get(0)[what];
    }

    private void lay(int[] row, int i, int[] mays, List<int[]> rows) {
        if (i == row.length) {
            rows.add(row.clone());
            return;
        }
        for (int stage = 0; stage < 3; stage++) {
            boolean holds = (mays[i] >> stage & 1) == 1;
            for (int j = 0; j < i; j++) {
                holds &= w.scratches.get(j)[0] != w.scratches.get(i)[0] || row[j] <= stage;
            }
            if (holds) {
                row[i] = stage;
                lay(row, i + 1, mays, rows);
            }
        }
    }

    // ---- ridges

    private int fact(int scholar, int kind, int a, int b, int c) {
        boolean bad = out(scholar, 1) || out(kind, 4) || out(a, w.ridges - 1);
        bad |= kind == 0 && (out(b, w.ridges - 1) || a == b);
        bad |= kind == 1 && (b < 0 || c < b || c > 999);
        bad |= kind == 2 && (b < 1 || b > 300);
        bad |= kind > 2 && (b < 0 || b > 999);
        if (bad) {
            return BAD;
        }
        if (w.facts.size() == 16) {
            return FULL;
        }
        w.facts.add(new int[] {scholar, kind, a, b, kind == 1 ? c : 0});
        return w.facts.size() - 1;
    }

    /**
     * How much older at most each of nine is than each other one, the ninth being the year 0 itself;
     * null if the facts (and, if known is a ridge, its age) quarrel.
     */
    private int[][] gaps(int facts, int known, int year) {
        int[][] most = new int[9][9];
        for (int i = 0; i < 8; i++) {
            Arrays.fill(most[i], 100000);
            most[i][i] = 0;
            most[i][8] = 999;
        }
        for (int f = 0; f < w.facts.size(); f++) {
            if ((facts >> f & 1) == 1) {
                int[] fact = w.facts.get(f);
                int b = fact[3];
                switch (fact[1]) {
                    case 0: most[fact[2]][b] = Math.min(most[fact[2]][b], -1); break;
                    case 1: bound(most, fact[2], b, fact[4]); break;
                    case 2: bound(most, fact[2], b * w.numbers[4], b * w.numbers[5]); break;
                    case 3: bound(most, fact[2], 0, b); break;
                    default: bound(most, fact[2], b, 999); break;
                }
            }
        }
        if (known >= 0) {
            bound(most, known, year, year);
        }
        for (int k = 0; k < 9; k++) {
            for (int i = 0; i < 9; i++) {
                for (int j = 0; j < 9; j++) {
                    most[i][j] = Math.max(-100000, Math.min(most[i][j], most[i][k] + most[k][j]));
                }
            }
        }
        for (int i = 0; i < 9; i++) {
            if (most[i][i] < 0) {
                return null;
            }
        }
        return most;
    }

    private static void bound(int[][] most, int ridge, int least, int greatest) {
        most[ridge][8] = Math.min(most[ridge][8], greatest);
        most[8][ridge] = Math.min(most[8][ridge], -least);
    }

    private int age(int ridge, int facts, int what) {
        if (out(ridge, w.ridges - 1) || out(facts, (1 << w.facts.size()) - 1) || out(what, 1)) {
            return -10;
        }
        int[][] most = gaps(facts, NONE, 0);
        return most == null ? QUARREL : what == 0 ? -most[8][ridge] : most[ridge][8];
    }

    private int fewest() {
        int all = (1 << w.facts.size()) - 1;
        for (int many = 0; many <= 4; many++) {
            for (int out = 0; out <= all; out++) {
                if (Integer.bitCount(out) == many && gaps(all ^ out, NONE, 0) != null) {
                    return out;
                }
            }
        }
        return QUARREL;
    }

    private int best() {
        int out = fewest();
        return out < 0 ? NONE : ((1 << w.facts.size()) - 1) ^ out;
    }

    private int sure(int a, int b) {
        if (out(a, w.ridges - 1) || out(b, w.ridges - 1) || a == b) {
            return BAD;
        }
        int best = best();
        return best < 0 ? QUARREL : gaps(best, NONE, 0)[a][b] < 0 ? 1 : 0;
    }

    /** How many years a core would look through: the whole search is dear. */
    int years() {
        int best = best();
        int[][] most = best < 0 ? null : gaps(best, NONE, 0);
        int years = 0;
        for (int r = 0; r < w.ridges && most != null; r++) {
            years += most[r][8] + most[8][r];
        }
        return years;
    }

    private int core() {
        int best = best();
        if (best < 0) {
            return QUARREL;
        }
        int[] worst = new int[8];
        int core = NONE;
        for (int r = w.ridges - 1; r >= 0; r--) {
            int[][] free = gaps(best, NONE, 0);
            for (int year = -free[8][r]; year <= free[r][8]; year++) {
                int[][] most = gaps(best, r, year);
                int spans = 0;
                for (int other = 0; other < w.ridges; other++) {
                    spans += most[other][8] + most[8][other];
                }
                worst[r] = Math.max(worst[r], spans);
            }
            core = core < 0 || worst[r] <= worst[core] ? r : core;
        }
        return core;
    }

    private int parted() {
        int[] bits = new int[2];
        for (int f = 0; f < w.facts.size(); f++) {
            bits[w.facts.get(f)[0]] |= 1 << f;
        }
        int[][] x = gaps(bits[0], NONE, 0);
        int[][] y = gaps(bits[1], NONE, 0);
        if (x == null || y == null) {
            return QUARREL;
        }
        for (int r = 0; r < w.ridges; r++) {
            boolean common = false;
            for (int year = 0; year <= 999; year++) {
                common |= year >= -x[8][r] && year <= x[r][8] && year >= -y[8][r] && year <= y[r][8];
            }
            if (!common) {
                return r;
            }
        }
        return NONE;
    }

    // ---- stands, lakes, warmth

    private int sign(int kind, int x, int p, int q) {
        if (out(kind, 2) || out(x, 20) || out(p, 39) || out(q, 39) || q < p) {
            return BAD;
        }
        long marks = w.signs.stream().filter(s -> s[0] == 0).count();
        if (w.signs.size() == 10 || kind == 0 && marks == 5) {
            return FULL;
        }
        w.signs.add(new int[] {kind, x, p, q});
        return w.signs.size() - 1;
    }

    /** Forward: for each front and each set of signs borne the least way and the first row to it. */
    private int stand(int year) {
        if (year != NONE && out(year, 39)) {
            return -10;
        }
        int marks = 0;
        for (int s = 0; s < w.signs.size(); s++) {
            marks |= w.signs.get(s)[0] == 0 ? 1 << s : 0;
        }
        Map<Integer, int[]> rows = new HashMap<>();
        for (int front = 0; front <= 20; front++) {
            extend(rows, new int[41], 0, front, 0);
        }
        for (int y = 1; y < 40; y++) {
            Map<Integer, int[]> next = new HashMap<>();
            for (Map.Entry<Integer, int[]> entry : rows.entrySet()) {
                int last = entry.getValue()[y];
                for (int front = 0; front <= 20; front++) {
                    if (Math.abs(front - last) <= w.numbers[1]) {
                        extend(next, entry.getValue(), y, front, entry.getKey() >> 5);
                    }
                }
            }
            rows = next;
        }
        int[] best = null;
        for (Map.Entry<Integer, int[]> entry : rows.entrySet()) {
            if (entry.getKey() >> 5 == marks && (best == null || Arrays.compare(entry.getValue(), best) < 0)) {
                best = entry.getValue();
            }
        }
        return best == null ? QUARREL : best[year + 1];
    }

    /** A row is its way and then its fronts; the key is the signs borne and the front. */
    private void extend(Map<Integer, int[]> rows, int[] row, int year, int front, int borne) {
        int now = borne;
        for (int s = 0; s < w.signs.size(); s++) {
            int[] sign = w.signs.get(s);
            if (year >= sign[2] && year <= sign[3]) {
                if (sign[0] == 1 && front > sign[1] || sign[0] == 2 && front < sign[1]) {
                    return;
                }
                now |= sign[0] == 0 && front == sign[1] ? 1 << s : 0;
            }
        }
        int[] longer = row.clone();
        longer[year + 1] = front;
        longer[0] += year == 0 ? 0 : Math.abs(front - row[year]);
        rows.merge(now << 5 | front, longer, (x, y) -> Arrays.compare(x, y) <= 0 ? x : y);
    }

    private int volume(int h, int g) {
        int volume = 0;
        for (int level = g; level < h; level++) {
            volume += w.areas[level];
        }
        return volume;
    }

    private int lake(int h, int g, int what) {
        if (out(h, 20) || g < 0 || g >= h || out(what, 2)) {
            return BAD;
        }
        int left = volume(h, g);
        if (what == 0) {
            return left;
        }
        int hours = 0;
        int greatest = 0;
        while (left > 0 && hours < 1000) {
            // the highest level that is not yet empty is the one up to which the rest does not fill those below
            int top = g;
            while (volume(top + 1, g) < left) {
                top++;
            }
            int out = Math.min(left, w.numbers[2] * (top + 1 - g));
            greatest = Math.max(greatest, out);
            left -= out;
            hours++;
        }
        return what == 1 ? hours : greatest;
    }

    private int shore(int h, int g, int e, int what) {
        if (out(h, 20) || g < 0 || g >= h || out(e, 20) || out(what, 1)) {
            return BAD;
        }
        int best = NONE;
        for (int height = 0; height <= 20; height++) {
            if (Math.abs(height - h) <= e && height > g) {
                int volume = volume(height, g);
                best = best < 0 ? volume : what == 0 ? Math.min(best, volume) : Math.max(best, volume);
            }
        }
        return best;
    }

    private int ice(int warmth, int snow) {
        int[] gains = new int[21];
        for (int zone = 0; zone <= 20; zone++) {
            int above = warmth - w.heights[zone];
            gains[zone] = above > 0 ? snow - above * w.numbers[3] : snow;
        }
        for (int zone = 20; zone >= 0; zone--) {
            if (Arrays.stream(gains, 0, zone + 1).sum() >= 0) {
                return zone;
            }
        }
        return NONE;
    }

    private int warm(int x, int s, int what) {
        if (out(x, 20) || out(s, 60) || out(what, 1)) {
            return BAD;
        }
        List<Integer> all = new ArrayList<>();
        for (int warmth = 0; warmth <= 60; warmth++) {
            if (ice(warmth, s) == x) {
                all.add(warmth);
            }
        }
        return all.isEmpty() ? NONE : all.get(what == 0 ? 0 : all.size() - 1);
    }

    // ---- texts, what there is

    private int type(long v, int n) {
        if (n < 1 || n > 8) {
            return BAD;
        }
        if (text.length() + n > 240) {
            return FULL;
        }
        for (int i = n - 1; i >= 0; i--) {
            text.append((char) ((v >>> (8 * i)) % 256 + 256 & 255));
        }
        return text.length();
    }

    private int clear() {
        int had = text.length();
        text = new StringBuilder();
        return had;
    }

    /** The items, each its word and its numbers; a last one with the word FAULT and its place. */
    private List<List<String>> items() {
        Matcher tokens = Pattern.compile("[a-z]+|[0-9]+|[^ ]").matcher(text);
        List<List<String>> items = new ArrayList<>();
        List<String> item = new ArrayList<>();
        while (tokens.find()) {
            String token = tokens.group();
            boolean stands;
            if (item.isEmpty()) {
                stands = numbersOf(token) >= 0;
            } else if (item.size() - 1 < numbersOf(item.get(0))) {
                stands = token.matches("[0-9]{1,4}");
            } else {
                stands = token.equals(";");
            }
            if (!stands) {
                items.add(List.of("FAULT", "" + tokens.start()));
                return items;
            }
            if (token.equals(";")) {
                items.add(item);
                item = new ArrayList<>();
            } else {
                item.add(token);
            }
        }
        if (!item.isEmpty()) {
            items.add(List.of("FAULT", "" + text.length()));
        }
        return items;
    }

    private static int numbersOf(String word) {
        if (word.equals("ridge")) {
            return 0;
        }
        if (List.of("cliff", "boulder", "scratch").contains(word)) {
            return 2;
        }
        if (word.equals("wood")) {
            return 4;
        }
        return FACT_WORDS.contains(word) || SIGN_WORDS.contains(word) ? 3 : -1;
    }

    private int fault() {
        List<List<String>> items = items();
        List<String> last = items.isEmpty() ? List.of("") : items.get(items.size() - 1);
        return last.get(0).equals("FAULT") ? Integer.parseInt(last.get(1)) : NONE;
    }

    private int read() {
        int fault = fault();
        if (fault != NONE) {
            return -10 - fault;
        }
        World before = w.copy();
        List<List<String>> items = items();
        for (int i = 0; i < items.size(); i++) {
            if (noted(items.get(i)) < 0) {
                w = before;
                return -1000 - i;
            }
        }
        clear();
        return items.size();
    }

    private long noted(List<String> item) {
        String word = item.get(0);
        long[] n = new long[item.size() - 1];
        for (int i = 0; i < n.length; i++) {
            n[i] = Long.parseLong(item.get(i + 1));
        }
        if (FACT_WORDS.contains(word)) {
            return call("fact", new long[] {n[0], FACT_WORDS.indexOf(word), n[1], n[2], n.length > 3 ? n[3] : 0});
        }
        if (SIGN_WORDS.contains(word)) {
            return call("sign", new long[] {SIGN_WORDS.indexOf(word), n[0], n[1], n[2]});
        }
        return call(word, n);
    }

    private int image(int i) {
        if (out(i, 1)) {
            return BAD;
        }
        images[i] = w.copy();
        return 1;
    }

    private int from(int i) {
        if (out(i, 1)) {
            return BAD;
        }
        if (images[i] == null) {
            return NO;
        }
        w = images[i].copy();
        return 1;
    }

    private int[] counts() {
        return new int[] {w.cliffs.size(), w.boulders.size(), w.scratches.size(), w.ridges, w.facts.size(),
            w.signs.size(), text.length()};
    }

    private long digest() {
        List<int[]> all = new ArrayList<>();
        all.add(counts());
        all.addAll(Arrays.asList(w.surfaces));
        all.addAll(w.cliffs);
        all.addAll(w.boulders);
        all.addAll(w.scratches);
        all.add(w.numbers);
        all.addAll(w.facts);
        all.addAll(w.signs);
        all.add(w.areas);
        all.add(w.heights);
        long h = 521;
        for (int[] row : all) {
            for (int v : row) {
                h = 31 * h + v;
            }
        }
        return h;
    }
}
