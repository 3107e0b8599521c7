import java.util.ArrayList;
import java.util.List;
import java.util.Random;

/** Random runs of 512 calls, every answer compared with the oracle's. */
public final class RandomRunsTest {
    private static final int RUNS = 360;
    private static final int CALLS = 512;
    private static final String[] VALLEY = {"surface", "slope", "flow", "cliff", "cliff", "boulder", "fits", "steps",
        "steps", "home", "home", "upstream", "scratch", "scratch", "put", "may", "laid"};
    private static final String[] RIDGES = {"ridge", "fact", "fact", "age", "age", "fewest", "sure", "core", "parted",
        "put"};
    private static final String[] STANDS = {"sign", "stand", "put", "area", "lake", "lake", "shore", "zone", "ice",
        "warm"};
    private static final String[] TEXTS = {"text", "type", "clear", "fault", "read", "image", "from", "count",
        "digest"};
    private static final String[] WORDS = {"cliff", "boulder", "scratch", "ridge", "cuts", "wood", "lichen", "find",
        "map", "at", "free", "ice"};

    private final Random random;
    private final StoneRiver x = new StoneRiver();
    private final Oracle oracle = new Oracle();
    private final StringBuilder story = new StringBuilder();
    private int calls;
    private int theme;

    private RandomRunsTest(int seed) {
        random = new Random(seed);
        theme = seed % 6;
    }

    public static void main(String[] args) {
        int wrong = 0;
        int made = 0;
        int first = args.length > 0 ? Integer.parseInt(args[0]) : 1;
        int runs = args.length > 1 ? Integer.parseInt(args[1]) : RUNS;
        for (int seed = first; seed < first + runs && wrong < 5; seed++) {
            RandomRunsTest run = new RandomRunsTest(seed);
            if (!run.run()) {
                wrong++;
                System.out.println("run " + seed + ", call " + run.calls + ":\n" + run.lastCalls());
            }
            made += run.calls;
        }
        System.out.println(made + " calls, " + wrong + " runs with a wrong answer");
        if (wrong != 0 || made == 0) {
            System.exit(1);
        }
    }

    private boolean run() {
        if (!prepare() || !same("image", new long[] {0})) {
            return false;
        }
        while (calls < CALLS) {
            if (calls % 64 == 0 && theme >= 4) {
                theme = 4 + random.nextInt(2);
            }
            String name = pick();
            boolean same = name.equals("text") ? typeText() : same(name, arguments(name));
            if (!same) {
                return false;
            }
            if (random.nextInt(40) == 0 && !same("digest", new long[0])) {
                return false;
            }
            // not to stay where all is full
            if (random.nextInt(theme == 3 ? 400 : 50) == 0 && !same("from", new long[] {0})) {
                return false;
            }
        }
        return same("digest", new long[0]);
    }

    /** What the first image keeps: a valley of ice, most ridges, areas and heights. */
    private boolean prepare() {
        boolean same = true;
        boolean steep = random.nextBoolean();
        for (int i = 0; i < 24 && theme != 3; i++) {
            long v = i / 8 == 1 ? to(steep ? 4 : 90) : 92 - 11 * (i % 8) + to(7);
            same = same && same("slope", new long[] {i / 8, i % 8, v, i / 8 == 1 ? -8 - to(4) : to(5) - 2});
        }
        int ridges = theme == 3 ? 0 : random.nextInt(9);
        for (int i = 0; i < ridges; i++) {
            same = same && same("ridge", new long[0]);
        }
        for (int i = 0; i < 20 && theme == 2; i++) {
            same = same && same("area", arguments("area")) && same("zone", zoneArguments(i));
        }
        return same;
    }

    /** Higher first, so that the ice stands at all. */
    private long[] zoneArguments(int zone) {
        return new long[] {zone, Math.max(0, 60 - 4 * zone + to(9) - 8)};
    }

    private String lastCalls() {
        String[] lines = story.toString().split("\n");
        int first = Math.max(0, lines.length - 30);
        return String.join("\n", List.of(lines).subList(first, lines.length));
    }

    private String pick() {
        String[][] lists = {VALLEY, RIDGES, STANDS, TEXTS};
        int list = theme < 4 && random.nextInt(12) != 0 ? theme : random.nextInt(4);
        return lists[list][random.nextInt(lists[list].length)];
    }

    private boolean same(String name, long[] args) {
        if (name.equals("core") && oracle.years() > 600 && random.nextInt(4) != 0) {
            return true;
        }
        calls++;
        long want = oracle.call(name, args);
        long got = Check.call(x, name, args);
        story.append(Check.told(name, args)).append(" = ").append(got).append('\n');
        if (got != want) {
            story.append("due is ").append(want).append('\n');
        }
        return got == want;
    }

    private long[] arguments(String name) {
        long[] args = goodArguments(name);
        if (args.length > 0 && random.nextInt(14) == 0) {
            long[] odd = {-1, -2, Integer.MIN_VALUE, Integer.MAX_VALUE, 64, 100, 10, 1000, 3, 8, 21, 40};
            args[random.nextInt(args.length)] = odd[random.nextInt(odd.length)];
        }
        return args;
    }

    /** 0 to most - 1. */
    private long to(int most) {
        return random.nextInt(Math.max(1, most));
    }

    private long[] goodArguments(String name) {
        switch (name) {
            case "surface": return new long[] {to(3), to(64), random.nextInt(40) == 0 ? 0 : 1 + to(99)};
            case "slope": return slopeArguments();
            case "flow": return new long[] {to(3), to(64)};
            case "cliff": return new long[] {random.nextBoolean() ? to(64) : to(24), to(2)};
            case "boulder": return new long[] {random.nextBoolean() ? to(64) : 24 + to(40), to(2)};
            case "fits": case "home": return new long[] {to(x.count(1))};
            case "steps": return new long[] {to(x.count(1)), to(x.count(0))};
            case "upstream": return new long[] {to(64)};
            case "scratch": return new long[] {random.nextInt(3) == 0 ? to(64) : 18 + to(3), to(16)};
            case "put": return putArguments();
            case "may": return new long[] {to(x.count(2))};
            case "laid": return new long[] {to(x.count(2) + 1) - 1};
            case "fact": return factArguments();
            case "age": return new long[] {to(x.count(3)), to(1 << x.count(4)), to(2)};
            case "sure": return new long[] {to(x.count(3)), to(x.count(3))};
            case "sign": return signArguments();
            case "stand": return new long[] {to(41) - 1};
            case "area": return new long[] {to(20), random.nextInt(3) == 0 ? 0 : to(1000)};
            case "lake": return new long[] {to(21), to(random.nextBoolean() ? 20 : 4), to(3)};
            case "shore": return new long[] {to(21), to(random.nextBoolean() ? 20 : 4), to(5), to(2)};
            case "zone": return random.nextInt(3) == 0 ? new long[] {to(21), to(61)} : zoneArguments((int) to(21));
            case "ice": return new long[] {to(61), random.nextBoolean() ? 60 - to(15) : to(61)};
            case "warm": return new long[] {to(21), random.nextBoolean() ? 60 - to(15) : to(61), to(2)};
            case "type": return new long[] {random.nextLong(), 1 + to(8)};
            case "image": return new long[] {random.nextInt(6) == 0 ? 0 : 1};
            case "from": return new long[] {to(2)};
            case "count": return new long[] {to(7)};
            default: return new long[0];
        }
    }

    /** Mostly a valley that falls from row to row, or from side to side. */
    private long[] slopeArguments() {
        long row = to(8);
        switch (random.nextInt(4)) {
            case 0: return new long[] {to(3), row, to(100), to(101) - 50};
            case 1: return new long[] {to(3), row, 10 + to(3), -8 - to(4)};
            default: return new long[] {to(3), row, 92 - 11 * row + to(7), to(5) - 2};
        }
    }

    private long[] putArguments() {
        int what = random.nextInt(6);
        int[] most = {8, random.nextBoolean() ? 3 : 20, random.nextBoolean() ? 20 : 999, 9, 30, 99};
        return new long[] {what, to(most[what] + 1)};
    }

    private long[] factArguments() {
        int kind = random.nextInt(3) == 0 ? 0 : random.nextInt(5);
        long b = kind == 0 ? to(x.count(3)) : kind == 2 ? 1 + to(random.nextBoolean() ? 30 : 100) : to(1000);
        if (kind == 4 && random.nextInt(3) != 0) {
            b /= 3;
        } else if (kind == 3 && random.nextInt(3) != 0) {
            b = 999 - b / 3;
        }
        return new long[] {to(2), kind, to(x.count(3)), b, Math.min(999, b + to(random.nextBoolean() ? 1000 : 40))};
    }

    private long[] signArguments() {
        long kind = to(3);
        long x = kind == 1 ? 20 - to(14) : kind == 2 ? to(12) : to(21);
        long p = to(40);
        return new long[] {kind, x, p, Math.min(39, p + to(random.nextBoolean() ? 40 : 6))};
    }

    /** Some items, at times with a sign changed, typed by up to eight bytes a call, and read. */
    private boolean typeText() {
        StringBuilder text = new StringBuilder();
        int items = random.nextInt(6);
        for (int i = 0; i < items; i++) {
            text.append(blanks(0)).append(item()).append(blanks(0)).append(';').append(blanks(0));
        }
        if (text.length() > 0 && random.nextInt(3) == 0) {
            String odd = " ;a19-zZ" + (char) 0 + (char) 200;
            text.setCharAt(random.nextInt(text.length()), odd.charAt(random.nextInt(odd.length())));
        }
        if (text.length() > 0 && random.nextInt(8) == 0) {
            text.setLength(random.nextInt(text.length()));
        }
        boolean same = random.nextInt(4) == 0 || same("clear", new long[0]);
        for (int at = 0; at < text.length() && same;) {
            int n = Math.min(text.length() - at, 1 + random.nextInt(8));
            long v = random.nextLong();
            for (int i = 0; i < n; i++) {
                v = v << 8 | text.charAt(at + i);
            }
            same = same("type", new long[] {v, n});
            at += n;
        }
        return same && same("fault", new long[0]) && same("read", new long[0]);
    }

    private String blanks(int least) {
        return " ".repeat(least + (random.nextInt(3) == 0 ? random.nextInt(3) : 0));
    }

    private String item() {
        String word = WORDS[random.nextInt(WORDS.length)];
        int kind = List.of(WORDS).indexOf(word);
        List<Long> numbers = new ArrayList<>();
        if (kind < 3) {
            numbers.add(to(64));
            numbers.add(to(6));
        } else if (kind > 3 && kind < 9) {
            numbers.add(to(2));
            numbers.add(to(x.count(3) + 1));
            numbers.add(kind == 4 ? to(x.count(3)) : 1 + to(300));
            if (kind == 5) {
                numbers.add(300 + to(300));
            }
        } else if (kind >= 9) {
            numbers.add(to(21));
            numbers.add(to(20));
            numbers.add(20 + to(20));
        }
        StringBuilder item = new StringBuilder(word);
        for (int i = 0; i < numbers.size(); i++) {
            item.append(blanks(i == 0 ? 0 : 1));
            long number = random.nextInt(40) == 0 ? to(20000) : numbers.get(i);
            item.append(random.nextInt(10) == 0 ? "0" + number : "" + number);
        }
        return item.toString();
    }
}
