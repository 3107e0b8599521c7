import java.util.Random;

/** Promises 15 to 21: ridges and the facts that date them. */
public final class RidgesTest {
    private static final Check C = new Check();
    private static final int CUTS = 0, WOOD = 1, LICHEN = 2, FIND = 3, MAP = 4;

    public static void main(String[] args) {
        ridge();
        factRanges();
        factAnswers();
        age();
        ageByCuts();
        fewest();
        fewestAnew();
        sure();
        core();
        parted();
        Random random = new Random(7);
        for (int run = 0; run < 1500; run++) {
            byCounting(random);
        }
        C.end();
    }

    private static StoneRiver ridges(int many) {
        StoneRiver x = new StoneRiver();
        for (int i = 0; i < many; i++) {
            x.ridge();
        }
        return x;
    }

    private static void ridge() {
        StoneRiver x = new StoneRiver();
        for (int i = 0; i < 8; i++) {
            C.due(i, x, "ridge");
            C.due(i + 1, x, "count", 3);
        }
        C.refused(-4, x, "ridge");
        C.due(8, x, "count", 3);
    }

    private static void factRanges() {
        StoneRiver x = ridges(3);
        for (int kind = 0; kind <= 4; kind++) {
            long b = kind == CUTS ? 1 : 5;
            for (long bad : new long[] {-1, 3, Integer.MIN_VALUE, Integer.MAX_VALUE}) {
                C.refused(-2, x, "fact", 0, kind, bad, b, 7);
            }
            for (long bad : new long[] {-1, 2, Integer.MIN_VALUE, Integer.MAX_VALUE}) {
                C.refused(-2, x, "fact", bad, kind, 0, b, 7);
            }
        }
        for (long bad : new long[] {-1, 0, 3, Integer.MIN_VALUE, Integer.MAX_VALUE}) {
            C.refused(-2, x, "fact", 0, CUTS, 0, bad, 7);
        }
        for (long bad : new long[] {-1, 0, 301, Integer.MIN_VALUE, Integer.MAX_VALUE}) {
            C.refused(-2, x, "fact", 0, LICHEN, 0, bad, 7);
        }
        for (long bad : new long[] {-1, 1000, Integer.MIN_VALUE, Integer.MAX_VALUE}) {
            C.refused(-2, x, "fact", 0, WOOD, 0, bad, 999);
            C.refused(-2, x, "fact", 0, WOOD, 0, 0, bad);
            C.refused(-2, x, "fact", 0, FIND, 0, bad, 7);
            C.refused(-2, x, "fact", 0, MAP, 0, bad, 7);
        }
        C.refused(-2, x, "fact", 0, WOOD, 0, 6, 5);
        for (long bad : new long[] {-1, 5, Integer.MIN_VALUE, Integer.MAX_VALUE}) {
            C.refused(-2, x, "fact", 0, bad, 0, 1, 7);
        }
        C.due(0, x, "count", 4);
    }

    private static void factAnswers() {
        StoneRiver x = ridges(2);
        C.due(0, x, "fact", 0, CUTS, 0, 1, Integer.MIN_VALUE);
        C.due(1, x, "fact", 1, CUTS, 0, 1, Integer.MAX_VALUE);
        C.due(2, x, "fact", 0, WOOD, 0, 0, 0);
        C.due(3, x, "fact", 0, WOOD, 0, 999, 999);
        C.due(4, x, "fact", 0, WOOD, 1, 0, 999);
        C.due(5, x, "fact", 0, LICHEN, 1, 1, -1);
        C.due(6, x, "fact", 0, LICHEN, 1, 300, 1000);
        C.due(7, x, "fact", 0, FIND, 1, 0, -1);
        C.due(8, x, "fact", 0, FIND, 1, 999, 1000);
        C.due(9, x, "fact", 0, MAP, 1, 0, -1);
        C.due(10, x, "fact", 1, MAP, 1, 999, 1000);
        for (int i = 11; i < 16; i++) {
            C.due(i, x, "fact", 1, CUTS, 1, 0, 0);
        }
        C.refused(-4, x, "fact", 1, CUTS, 1, 0, 0);
        C.refused(-2, x, "fact", 1, CUTS, 1, 1, 0);
        C.due(16, x, "count", 4);
    }

    private static void age() {
        StoneRiver x = ridges(2);
        C.due(0, x, "age", 0, 0, 0);
        C.due(999, x, "age", 1, 0, 1);
        x.fact(0, WOOD, 0, 100, 300);
        x.fact(0, LICHEN, 0, 12, 0);
        x.fact(0, FIND, 0, 250, 0);
        x.fact(1, MAP, 0, 130, 0);
        x.fact(1, LICHEN, 0, 40, 0);
        x.fact(1, LICHEN, 0, 100, 0);
        span(x, 0, 1, 100, 300);
        span(x, 0, 2, 120, 360);
        span(x, 0, 4, 0, 250);
        span(x, 0, 8, 130, 999);
        span(x, 0, 16, 400, 999);
        span(x, 0, 15, 130, 250);
        span(x, 1, 15, 0, 999);
        C.due(-5, x, "age", 0, 17, 0);
        C.due(-5, x, "age", 1, 17, 1);
        C.due(-5, x, "age", 1, 32, 1);
        span(x, 0, 24, 400, 999);
        x.put(4, 7);
        span(x, 0, 2, 84, 360);
        span(x, 0, 17, 280, 300);
        x.put(5, 7);
        span(x, 0, 2, 84, 84);
        x.put(5, 9);
        x.put(4, 9);
        span(x, 0, 32, 900, 900);
        C.ranges(-10, x, "age", new long[] {1, 0, 0}, 0, 1, 0, 63, 0, 1);
        // a year alone may be left, and none
        StoneRiver y = ridges(1);
        y.fact(0, FIND, 0, 7, 0);
        y.fact(0, MAP, 0, 7, 0);
        span(y, 0, 3, 7, 7);
        y.fact(0, MAP, 0, 8, 0);
        C.due(-5, y, "age", 0, 7, 0);
        C.due(-10, y, "age", 0, 8, 0);
        C.due(-10, new StoneRiver(), "age", 0, 0, 0);
    }

    private static void span(StoneRiver x, int ridge, int facts, int least, int greatest) {
        C.due(least, x, "age", ridge, facts, 0);
        C.due(greatest, x, "age", ridge, facts, 1);
    }

    private static void ageByCuts() {
        // the youngest last, so that one round over the facts does not do
        StoneRiver x = ridges(8);
        for (int i = 6; i >= 0; i--) {
            x.fact(0, CUTS, i, i + 1, 0);
        }
        for (int i = 0; i < 8; i++) {
            span(x, i, 127, i, 992 + i);
        }
        x.fact(1, WOOD, 3, 500, 500);
        for (int i = 0; i < 8; i++) {
            span(x, i, 255, i < 3 ? i : 497 + i, i > 3 ? 992 + i : 497 + i);
        }
        x.fact(1, CUTS, 7, 0, 0);
        C.due(-5, x, "age", 0, 511, 0);
        C.due(-5, x, "age", 0, 256 + 127, 0);
        span(x, 0, 256 + 126, 1, 993);
        C.due(1, x, "fewest");
        // the same the other way round
        StoneRiver y = ridges(8);
        for (int i = 0; i < 7; i++) {
            y.fact(0, CUTS, i, i + 1, 0);
        }
        for (int i = 0; i < 8; i++) {
            span(y, i, 127, i, 992 + i);
        }
        y.fact(0, MAP, 0, 992, 0);
        span(y, 7, 255, 999, 999);
        y.fact(0, MAP, 0, 993, 0);
        C.due(-5, y, "age", 7, 511, 0);
        // two that cut one another
        StoneRiver z = ridges(2);
        z.fact(0, CUTS, 0, 1, 0);
        z.fact(1, CUTS, 1, 0, 0);
        C.due(-5, z, "age", 0, 3, 0);
        span(z, 0, 2, 1, 999);
        C.due(1, z, "fewest");
    }

    private static void fewest() {
        StoneRiver x = ridges(5);
        C.due(0, x, "fewest");
        x.fact(0, WOOD, 0, 0, 5);
        x.fact(0, WOOD, 0, 8, 9);
        C.due(1, x, "fewest");
        x.fact(0, WOOD, 0, 8, 9);
        C.due(1, x, "fewest");
        x.fact(0, WOOD, 0, 0, 5);
        // 0 and 3, or 1 and 2: the least as bits
        C.due(6, x, "fewest");
        x.fact(0, WOOD, 0, 0, 9);
        C.due(6, x, "fewest");
        x.fact(0, WOOD, 0, 6, 6);
        C.due(32 + 6, x, "fewest");

        StoneRiver y = ridges(5);
        int[] due = {1, 5, 21, 85, -5};
        for (int i = 0; i < 5; i++) {
            y.fact(i % 2, FIND, i, 10, 0);
            C.due(i == 0 ? 0 : due[i - 1], y, "fewest");
            y.fact(i % 2, MAP, i, 11, 0);
            C.due(due[i], y, "fewest");
        }
        C.due(-5, y, "sure", 0, 1);
        C.due(-5, y, "core");

        StoneRiver z = ridges(2);
        z.fact(0, FIND, 0, 5, 0);
        z.fact(0, LICHEN, 1, 99, 0);
        C.due(0, z, "fewest");
        z.fact(1, LICHEN, 1, 100, 0);
        C.due(4, z, "fewest");
        z.put(4, 9);
        C.due(0, z, "fewest");
        z.put(4, 10);
        C.due(4, z, "fewest");
        z.put(4, 1);
        z.put(5, 1);
        C.due(2, z, "fewest");
        // an image of fewer facts
        StoneRiver w = ridges(2);
        w.image(0);
        w.fact(0, LICHEN, 1, 300, 0);
        C.due(1, w, "fewest");
        w.from(0);
        C.due(0, w, "fewest");
        w.fact(0, LICHEN, 1, 30, 0);
        C.due(0, w, "fewest");
        // the last four of sixteen
        StoneRiver v = ridges(1);
        for (int i = 0; i < 16; i++) {
            v.fact(0, i < 12 ? FIND : MAP, 0, i < 12 ? 5 : 6, 0);
        }
        C.due(0xf000, v, "fewest");
    }

    /** Facts that are alike but for one number, each asked after the one ahead. */
    private static void fewestAnew() {
        StoneRiver x = ridges(2);
        x.image(0);
        int[][] seconds = {{0, FIND, 0, 4, 0}, {0, FIND, 1, 4, 0}, {0, FIND, 0, 4, 0}, {0, MAP, 0, 4, 0},
            {0, MAP, 0, 10, 0}, {0, MAP, 0, 9, 0}, {0, WOOD, 0, 0, 5}, {0, WOOD, 0, 0, 4}};
        int[] due = {1, 0, 1, 0, 1, 0, 0, 1};
        for (int order = 0; order < 2; order++) {
            for (int i = 0; i < due.length; i++) {
                x.from(0);
                if (order == 0) {
                    x.fact(0, WOOD, 0, 5, 9);
                }
                x.fact(0, seconds[i][1], seconds[i][2], seconds[i][3], seconds[i][4]);
                if (order == 1) {
                    x.fact(0, WOOD, 0, 5, 9);
                }
                C.due(due[i], x, "fewest");
            }
        }
        StoneRiver y = ridges(1);
        y.fact(0, LICHEN, 0, 10, 0);
        y.fact(0, WOOD, 0, 301, 310);
        C.due(1, y, "fewest");
        y.put(5, 31);
        C.due(0, y, "fewest");
        y.put(5, 30);
        C.due(1, y, "fewest");
        y.put(5, 99);
        C.due(0, y, "fewest");
        y.put(4, 32);
        C.due(1, y, "fewest");
        y.put(4, 31);
        C.due(0, y, "fewest");
    }

    private static void sure() {
        StoneRiver x = ridges(4);
        C.due(0, x, "sure", 0, 1);
        x.fact(0, CUTS, 0, 1, 0);
        x.fact(0, CUTS, 1, 2, 0);
        C.due(1, x, "sure", 0, 1);
        C.due(1, x, "sure", 0, 2);
        C.due(0, x, "sure", 2, 0);
        C.due(0, x, "sure", 1, 0);
        C.due(0, x, "sure", 0, 3);
        x.fact(0, FIND, 1, 50, 0);
        x.fact(0, MAP, 3, 50, 0);
        C.due(1, x, "sure", 0, 3);
        C.due(0, x, "sure", 1, 3);
        C.due(0, x, "sure", 3, 1);
        x.fact(0, MAP, 3, 51, 0);
        C.due(1, x, "sure", 1, 3);
        C.due(0, x, "sure", 2, 3);
        // what is left out by FEWEST binds no longer
        x.fact(0, CUTS, 3, 0, 0);
        C.due(1, x, "fewest");
        C.due(1, x, "sure", 1, 3);
        C.due(0, x, "sure", 0, 1);
        C.due(1, x, "sure", 1, 0);
        C.due(1, x, "sure", 1, 2);
        C.ranges(-2, x, "sure", new long[] {0, 1}, 0, 3, 0, 3);
        for (int i = 0; i < 4; i++) {
            C.refused(-2, x, "sure", i, i);
        }
        StoneRiver y = ridges(3);
        y.fact(0, CUTS, 0, 1, 0);
        y.fact(1, CUTS, 1, 0, 0);
        C.due(1, y, "fewest");
        C.due(0, y, "sure", 0, 1);
        C.due(1, y, "sure", 1, 0);
        C.due(-2, new StoneRiver(), "sure", 0, 1);
    }

    private static void core() {
        StoneRiver x = new StoneRiver();
        C.due(-1, x, "core");
        x.ridge();
        C.due(0, x, "core");
        x.ridge();
        C.due(0, x, "core");
        // the wider of two that do not bind one another
        x.fact(0, FIND, 0, 100, 0);
        C.due(1, x, "core");
        x.fact(0, FIND, 1, 100, 0);
        C.due(0, x, "core");
        // 0 < 1 < 2 of 101 years: the middle one known, at worst at its end, leaves 99 of one of them;
        // an outer one known at its worst leaves as much of both
        StoneRiver y = ridges(3);
        y.fact(0, CUTS, 0, 1, 0);
        y.fact(0, CUTS, 1, 2, 0);
        y.fact(0, FIND, 2, 100, 0);
        C.due(1, y, "core");
        // but a free wide one is better
        y.ridge();
        C.due(3, y, "core");
        y.fact(1, WOOD, 3, 10, 30);
        C.due(1, y, "core");
        // what is left out by FEWEST does not bind
        StoneRiver z = ridges(2);
        z.fact(0, FIND, 0, 5, 0);
        z.fact(0, MAP, 0, 6, 0);
        z.fact(0, FIND, 1, 994, 0);
        C.due(1, z, "core");
        z.fact(0, FIND, 1, 992, 0);
        C.due(0, z, "core");
    }

    private static void parted() {
        StoneRiver x = ridges(4);
        x.fact(0, FIND, 2, 50, 0);
        x.fact(1, MAP, 2, 50, 0);
        C.due(-1, x, "parted");
        x.fact(1, MAP, 3, 51, 0);
        x.fact(0, FIND, 3, 50, 0);
        C.due(3, x, "parted");
        x.fact(0, CUTS, 1, 2, 0);
        C.due(3, x, "parted");
        x.fact(1, MAP, 1, 49, 0);
        C.due(3, x, "parted");
        x.fact(1, MAP, 1, 50, 0);
        C.due(1, x, "parted");
        x.fact(1, FIND, 0, 5, 0);
        x.fact(0, MAP, 0, 6, 0);
        C.due(0, x, "parted");
        x.image(0);
        x.fact(0, MAP, 3, 51, 0);
        C.due(-5, x, "parted");
        x.from(0);
        C.due(0, x, "parted");
        x.fact(1, FIND, 3, 50, 0);
        C.due(-5, x, "parted");
        C.due(-1, ridges(8), "parted");
        // the other way round, and the first fact of the second scholar
        StoneRiver y = ridges(2);
        y.fact(1, FIND, 1, 50, 0);
        y.fact(0, MAP, 1, 50, 0);
        C.due(-1, y, "parted");
        y.fact(0, MAP, 1, 51, 0);
        C.due(1, y, "parted");
    }

    /** Three ridges of few years, all ages gone through one by one. */
    private static void byCounting(Random random) {
        StoneRiver x = ridges(3);
        x.put(4, 1 + random.nextInt(2));
        x.put(5, 2 + random.nextInt(2));
        int slow = x.put(4, 1);
        int fast = x.put(5, 3);
        x.put(4, slow);
        x.put(5, fast);
        int many = 3 + random.nextInt(7);
        int[][] facts = new int[many][];
        for (int i = 0; i < many; i++) {
            int kind = i < 3 ? FIND : random.nextInt(5);
            int a = i < 3 ? i : random.nextInt(3);
            int b = random.nextInt(10);
            int c = b + random.nextInt(10 - b);
            if (i < 3) {
                b = 9;
            } else if (kind == CUTS) {
                b = (a + 1 + random.nextInt(2)) % 3;
            } else if (kind == LICHEN) {
                b = 1 + random.nextInt(3);
            }
            facts[i] = new int[] {random.nextInt(2), kind, a, b, c};
            C.same("a fact", i, x.fact(facts[i][0], kind, a, b, c));
        }
        Counting counting = new Counting(facts, slow, fast);
        counting.compare(x, random);
    }

    /** All ages from 0 to 12 of three ridges: no fact here tells one year above 9 from another. */
    private static final class Counting {
        private static final int YEARS = 13;
        private final int many;
        private final int[] borne = new int[YEARS * YEARS * YEARS];

        Counting(int[][] facts, int slow, int fast) {
            many = facts.length;
            for (int i = 0; i < borne.length; i++) {
                for (int f = 0; f < many; f++) {
                    if (bears(facts[f], i, slow, fast)) {
                        borne[i] |= 1 << f;
                    }
                }
            }
        }

        private static int ageOf(int ridge, int i) {
            return ridge == 0 ? i / YEARS / YEARS : ridge == 1 ? i / YEARS % YEARS : i % YEARS;
        }

        private static boolean bears(int[] fact, int i, int slow, int fast) {
            int age = ageOf(fact[2], i);
            switch (fact[1]) {
                case CUTS: return age < ageOf(fact[3], i);
                case WOOD: return age >= fact[3] && age <= fact[4];
                case LICHEN: return age >= fact[3] * slow && age <= fact[3] * fast;
                case FIND: return age <= fact[3];
                default: return age >= fact[3];
            }
        }

        private int end(int ridge, int facts, boolean greatest, int known, int year) {
            int end = -5;
            for (int i = 0; i < borne.length; i++) {
                boolean counts = (borne[i] & facts) == facts && (known < 0 || ageOf(known, i) == year);
                if (counts && (end < 0 || greatest == ageOf(ridge, i) > end)) {
                    end = ageOf(ridge, i);
                }
            }
            return end;
        }

        private int fewest() {
            int best = -5;
            for (int bits : borne) {
                int out = ~bits & ((1 << many) - 1);
                int fewer = Integer.bitCount(out) - (best < 0 ? 5 : Integer.bitCount(best));
                if (fewer < 0 || fewer == 0 && best >= 0 && out < best) {
                    best = out;
                }
            }
            return best;
        }

        private int sure(int a, int b, int facts) {
            for (int i = 0; i < borne.length; i++) {
                if ((borne[i] & facts) == facts && ageOf(a, i) >= ageOf(b, i)) {
                    return 0;
                }
            }
            return 1;
        }

        private int core(int facts) {
            int best = -1;
            int bestWorst = Integer.MAX_VALUE;
            for (int known = 0; known < 3; known++) {
                int worst = 0;
                for (int year = 0; year < YEARS; year++) {
                    int spans = 0;
                    for (int ridge = 0; ridge < 3; ridge++) {
                        spans += end(ridge, facts, true, known, year) - end(ridge, facts, false, known, year);
                    }
                    worst = Math.max(worst, spans);
                }
                if (worst < bestWorst) {
                    bestWorst = worst;
                    best = known;
                }
            }
            return best;
        }

        void compare(StoneRiver x, Random random) {
            // with the first three facts no ridge is older than 9
            int facts = 7 | random.nextInt(1 << many);
            for (int ridge = 0; ridge < 3; ridge++) {
                C.due(end(ridge, facts, false, -1, 0), x, "age", ridge, facts, 0);
                C.due(end(ridge, facts, true, -1, 0), x, "age", ridge, facts, 1);
            }
            int out = fewest();
            C.due(out, x, "fewest");
            int best = (1 << many) - 1 & ~out;
            if (out < 0 || (best & 7) != 7) {
                return;
            }
            for (int a = 0; a < 3; a++) {
                for (int b = 0; b < 3; b++) {
                    C.due(a == b ? -2 : sure(a, b, best), x, "sure", a, b);
                }
            }
            C.due(core(best), x, "core");
        }
    }
}
