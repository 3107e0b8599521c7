import java.util.function.Supplier;

/** The sentences of the ridges, promises 15 to 21. */
final class RidgeEdges {
    private static final String TERMS = "Terms";
    private static final int CUTS = 0, WOOD = 1, LICHEN = 2, FIND = 3, MAP = 4;
    private static final Supplier<StoneRiver> THREE = () -> Worlds.ridges(3);

    private RidgeEdges() {
    }

    static void look(Edges e) {
        ridges(e);
        kinds(e);
        ages(e);
        best(e);
        ridgeCalls(e);
        factCalls(e);
        ageCalls(e);
        fewestCalls(e);
        sureCalls(e);
        coreCalls(e);
        partedCalls(e);
    }

    private static long[] args(long... args) {
        return args;
    }

    /** The ridge's years by these facts. */
    private static void span(Check c, StoneRiver x, int ridge, int facts, int least, int greatest) {
        c.due(least, x, "age", ridge, facts, 0);
        c.due(greatest, x, "age", ridge, facts, 1);
    }

    private static void ridges(Edges e) {
        e.of(TERMS, "2 RIDGES 0 .. 7, as they come:", c -> {
            StoneRiver x = new StoneRiver();
            for (int i = 0; i < 8; i++) {
                c.due(i, x, "ridge");
            }
            c.due(-4, x, "ridge");
            c.due(8, x, "count", 3);
        });
        e.of(TERMS, "each has an AGE in whole years (0 .. 999, years ago).", c -> {
            StoneRiver x = Worlds.ridges(8);
            for (int i = 0; i < 8; i++) {
                span(c, x, i, 0, 0, 999);
            }
            // no age below 0 and none above 999 is borne by a fact
            x.fact(0, MAP, 0, 999, 0);
            x.fact(0, FIND, 1, 0, 0);
            x.fact(0, CUTS, 0, 2, 0);
            x.fact(0, CUTS, 2, 1, 0);
            span(c, x, 0, 1, 999, 999);
            span(c, x, 1, 2, 0, 0);
            c.due(-5, x, "age", 3, 1 + 4, 0);
            c.due(-5, x, "age", 3, 2 + 8, 0);
            span(c, x, 2, 4, 1, 999);
            span(c, x, 2, 8, 0, 998);
        });
        e.of(TERMS, "FACTS 0 .. 15, as they come, of a SCHOLAR (0, 1):", c -> {
            StoneRiver x = Worlds.ridges(1);
            for (int i = 0; i < 16; i++) {
                c.due(i, x, "fact", i % 2, FIND, 0, 5, 0);
            }
            c.due(-4, x, "fact", 0, FIND, 0, 5, 0);
            Edges.range(c, -2, THREE, "fact", args(0, FIND, 1, 5, 0), 0, 0, 1);
        });
    }

    private static void kinds(Edges e) {
        e.of(TERMS, "KIND 0 CUTS: a is younger than b.", RidgeEdges::cuts);
        e.of(TERMS, "1 WOOD: AGE of a is b .. c (0 <= b <= c <= 999).", c -> {
            StoneRiver x = Worlds.ridges(3);
            for (int[] years : new int[][] {{0, 0}, {999, 999}, {0, 999}, {5, 5}, {4, 5}}) {
                int fact = x.fact(0, WOOD, 2, years[0], years[1]);
                span(c, x, 2, 1 << fact, years[0], years[1]);
            }
            Edges.range(c, -2, THREE, "fact", args(0, WOOD, 2, 4, 5), 3, 0, 5);
            Edges.range(c, -2, THREE, "fact", args(0, WOOD, 2, 4, 5), 4, 4, 999);
            Edges.refused(c, -2, THREE, "fact", 0, WOOD, 2, 1000, 1000);
            Edges.refused(c, -2, THREE, "fact", 0, WOOD, 2, -1, -1);
        });
        e.of(TERMS, "2 LICHEN: AGE of a is b times SLOW to b times FAST (b 1 .. 300; SLOW, FAST years a width: 1 .. "
                + "99, SLOW no more; 10, 30 at first).", RidgeEdges::lichen);
        e.of(TERMS, "3 FIND: AGE of a is b at most (it lies on the find).", c -> {
            StoneRiver x = Worlds.ridges(3);
            for (int years : new int[] {0, 1, 500, 998, 999}) {
                int fact = x.fact(1, FIND, 1, years, 0);
                span(c, x, 1, 1 << fact, 0, years);
                span(c, x, 0, 1 << fact, 0, 999);
            }
        });
        e.of(TERMS, "4 MAP: AGE of a is b at least (b 0 .. 999 both).", c -> {
            StoneRiver x = Worlds.ridges(3);
            for (int years : new int[] {0, 1, 500, 998, 999}) {
                int fact = x.fact(1, MAP, 1, years, 0);
                span(c, x, 1, 1 << fact, years, 999);
                span(c, x, 2, 1 << fact, 0, 999);
            }
            Edges.range(c, -2, THREE, "fact", args(0, FIND, 2, 4, 0), 3, 0, 999);
            Edges.range(c, -2, THREE, "fact", args(0, MAP, 2, 4, 0), 3, 0, 999);
            Edges.range(c, -2, THREE, "fact", args(0, CUTS, 2, 1, 1), 1, 0, 4);
        });
    }

    /** By a year at least; any row of cuts; and never round. */
    private static void cuts(Check c) {
        StoneRiver x = Worlds.ridges(8);
        for (int i = 6; i >= 0; i--) {
            x.fact(0, CUTS, i, i + 1, 0);
        }
        for (int i = 0; i < 8; i++) {
            span(c, x, i, 127, i, 992 + i);
        }
        // the same as they come the other way round
        StoneRiver z = Worlds.ridges(8);
        for (int i = 0; i < 7; i++) {
            z.fact(1, CUTS, i, i + 1, 0);
        }
        for (int i = 0; i < 8; i++) {
            span(c, z, i, 127, i, 992 + i);
        }
        x.fact(0, CUTS, 7, 0, 0);
        c.due(-5, x, "age", 0, 255, 0);
        // without the cut of 0 by 1 the row begins with 1 and ends with 0
        span(c, x, 0, 255 - 64, 7, 999);
        span(c, x, 1, 255 - 64, 0, 992);
        StoneRiver y = Worlds.ridges(2);
        y.fact(0, CUTS, 0, 1, 0);
        y.fact(0, WOOD, 0, 7, 8);
        y.fact(0, WOOD, 1, 7, 8);
        span(c, y, 0, 7, 7, 7);
        span(c, y, 1, 7, 8, 8);
        y.fact(0, FIND, 1, 7, 0);
        c.due(-5, y, "age", 0, 15, 0);
        Edges.range(c, -2, THREE, "fact", args(0, CUTS, 0, 1, 0), 3, 1, 2);
        Edges.range(c, -2, THREE, "fact", args(0, CUTS, 2, 1, 0), 3, 0, 1);
    }

    private static void lichen(Check c) {
        StoneRiver x = Worlds.ridges(1);
        x.fact(0, LICHEN, 0, 1, 0);
        x.fact(0, LICHEN, 0, 33, 0);
        x.fact(0, LICHEN, 0, 34, 0);
        x.fact(0, LICHEN, 0, 99, 0);
        x.fact(0, LICHEN, 0, 100, 0);
        x.fact(0, LICHEN, 0, 300, 0);
        span(c, x, 0, 1, 10, 30);
        span(c, x, 0, 2, 330, 990);
        span(c, x, 0, 4, 340, 999);
        span(c, x, 0, 8, 990, 999);
        c.due(-5, x, "age", 0, 16, 0);
        c.due(-5, x, "age", 0, 32, 1);
        x.put(4, 1);
        span(c, x, 0, 32, 300, 999);
        x.put(5, 99);
        x.put(4, 99);
        span(c, x, 0, 1, 99, 99);
        x.put(4, 1);
        x.put(5, 1);
        span(c, x, 0, 32, 300, 300);
        span(c, x, 0, 1, 1, 1);
        Edges.range(c, -2, THREE, "fact", args(0, LICHEN, 2, 4, 0), 3, 1, 300);
        c.due(10, new StoneRiver(), "put", 4, 30);
        c.due(30, new StoneRiver(), "put", 5, 99);
        Edges.range(c, -2, StoneRiver::new, "put", args(4, 1), 1, 1, 30);
        Edges.range(c, -2, StoneRiver::new, "put", args(5, 30), 1, 10, 99);
        Supplier<StoneRiver> slowest = () -> {
            StoneRiver y = new StoneRiver();
            y.put(5, 99);
            return y;
        };
        Edges.range(c, -2, slowest, "put", args(4, 1), 1, 1, 99);
        Supplier<StoneRiver> quickest = () -> {
            StoneRiver y = new StoneRiver();
            y.put(4, 1);
            return y;
        };
        Edges.range(c, -2, quickest, "put", args(5, 1), 1, 1, 99);
    }

    private static void ages(Edges e) {
        e.of(TERMS, "AGES by some FACTS (16 bits): of all AGES of RIDGES that bear these: the least, the greatest of "
                + "a RIDGE.", c -> {
            StoneRiver x = Worlds.ridges(3);
            x.fact(0, CUTS, 0, 1, 0);
            x.fact(0, CUTS, 1, 2, 0);
            x.fact(1, FIND, 2, 50, 0);
            x.fact(1, MAP, 0, 40, 0);
            for (int i = 4; i < 16; i++) {
                x.fact(0, FIND, 1, 60 - i, 0);
            }
            span(c, x, 1, 0xffff, 41, 45);
            span(c, x, 2, 0xffff, 42, 50);
            span(c, x, 0, 0xffff, 40, 44);
            span(c, x, 1, 0x7fff, 41, 46);
            span(c, x, 0, 1 + 2 + 4, 0, 48);
            span(c, x, 0, 1 + 4, 0, 998);
            span(c, x, 2, 1 + 2 + 8, 42, 999);
            span(c, x, 2, 0, 0, 999);
            span(c, x, 1, 0x8000, 0, 45);
        });
        e.of(TERMS, "They QUARREL, if there are none.", c -> {
            StoneRiver x = Worlds.ridges(3);
            x.fact(0, FIND, 0, 5, 0);
            x.fact(1, MAP, 0, 5, 0);
            x.fact(1, MAP, 0, 6, 0);
            span(c, x, 0, 3, 5, 5);
            for (int ridge = 0; ridge < 3; ridge++) {
                c.due(-5, x, "age", ridge, 5, 0);
                c.due(-5, x, "age", ridge, 7, 1);
            }
            span(c, x, 2, 6, 0, 999);
        });
    }

    private static void best(Edges e) {
        e.of(TERMS, "FEWEST: the FACTS to be left out, 4 at most, so that the others do not QUARREL: the fewest, of "
                + "like ones the least as bits.", RidgeEdges::fewestLeftOut);
        e.of(TERMS, "SURE: by all FACTS but these the one RIDGE is younger than the other one in all.",
                RidgeEdges::youngerInAll);
        e.of(TERMS, "CORE: the RIDGE for which, if its AGE were known, whatever it be of those that may, all spans "
                + "(greatest less least AGE of RIDGES) together are least at worst,", RidgeEdges::leastAtWorst);
        e.of(TERMS, "of like ones the least; by all FACTS but FEWEST.", c -> {
            StoneRiver x = Worlds.ridges(3);
            c.due(0, x, "core");
            x.fact(0, FIND, 0, 998, 0);
            c.due(1, x, "core");
            // the facts left out do not make a span less
            x.fact(0, MAP, 1, 600, 0);
            x.fact(0, FIND, 1, 5, 0);
            x.fact(0, FIND, 1, 599, 0);
            c.due(2, x, "fewest");
            c.due(2, x, "core");
            x.fact(0, MAP, 1, 650, 0);
            x.fact(0, MAP, 1, 650, 0);
            c.due(4 + 8, x, "fewest");
            c.due(2, x, "core");
            x.fact(0, FIND, 2, 5, 0);
            c.due(0, x, "core");
            // nor does a cut left out: 2 is younger than 0, each has 99 years, 1 has 100
            StoneRiver y = Worlds.ridges(3);
            y.fact(0, CUTS, 0, 2, 0);
            y.fact(0, CUTS, 2, 0, 0);
            y.fact(0, FIND, 0, 100, 0);
            y.fact(0, FIND, 1, 100, 0);
            c.due(1, y, "fewest");
            c.due(1, y, "core");
        });
        e.of(TERMS, "PARTED: the first RIDGE of which AGES by SCHOLAR 0's FACTS and by SCHOLAR 1's have no year in "
                + "common (by neither's QUARREL: -5).", RidgeEdges::noYearInCommon);
    }

    private static void fewestLeftOut(Check c) {
        StoneRiver x = Worlds.ridges(5);
        c.due(0, x, "fewest");
        // of each ridge the find or the second map, the first of the two
        for (int i = 0; i < 5; i++) {
            x.fact(0, FIND, i, 10, 0);
            c.due(leftOutOf(i), x, "fewest");
            x.fact(0, MAP, i, 10, 0);
            c.due(leftOutOf(i), x, "fewest");
            x.fact(0, MAP, i, 11, 0);
            c.due(i < 4 ? leftOutOf(i + 1) : -5, x, "fewest");
        }
        // one late one sooner than two early ones
        StoneRiver y = Worlds.ridges(1);
        y.fact(0, FIND, 0, 10, 0);
        y.fact(0, FIND, 0, 10, 0);
        y.fact(0, MAP, 0, 11, 0);
        c.due(4, y, "fewest");
        y.fact(0, MAP, 0, 11, 0);
        c.due(3, y, "fewest");
        for (int i = 4; i < 8; i++) {
            y.fact(0, FIND, 0, 10, 0);
        }
        c.due(4 + 8, y, "fewest");
        y.fact(0, MAP, 0, 11, 0);
        y.fact(0, MAP, 0, 11, 0);
        c.due(4 + 8 + 256 + 512, y, "fewest");
        y.fact(0, MAP, 0, 11, 0);
        c.due(-5, y, "fewest");
        // the last four of sixteen
        StoneRiver z = Worlds.ridges(1);
        for (int i = 0; i < 16; i++) {
            z.fact(i % 2, i < 12 ? FIND : MAP, 0, i < 12 ? 5 : 6, 0);
        }
        c.due(0xf000, z, "fewest");
    }

    /** Of three facts each, the find is ahead of what it quarrels with. */
    private static int leftOutOf(int many) {
        int bits = 0;
        for (int i = 0; i < many; i++) {
            bits |= 1 << 3 * i;
        }
        return bits;
    }

    private static void youngerInAll(Check c) {
        StoneRiver x = Worlds.ridges(4);
        x.fact(0, FIND, 0, 50, 0);
        x.fact(0, MAP, 1, 50, 0);
        c.due(0, x, "sure", 0, 1);
        x.fact(0, MAP, 1, 51, 0);
        c.due(1, x, "sure", 0, 1);
        c.due(0, x, "sure", 1, 0);
        // by cuts alone, with years in common, over a third one
        x.fact(0, CUTS, 2, 3, 0);
        c.due(1, x, "sure", 2, 3);
        c.due(0, x, "sure", 3, 2);
        x.fact(0, CUTS, 3, 0, 0);
        c.due(1, x, "sure", 2, 0);
        c.due(1, x, "sure", 2, 1);
        // what FEWEST leaves out binds no longer: the least as bits is the find
        x.fact(0, WOOD, 0, 70, 80);
        c.due(1, x, "fewest");
        c.due(0, x, "sure", 0, 1);
        c.due(1, x, "sure", 3, 0);
        StoneRiver y = Worlds.ridges(3);
        y.fact(0, CUTS, 0, 1, 0);
        y.fact(0, CUTS, 2, 0, 0);
        y.fact(0, CUTS, 1, 0, 0);
        c.due(1, y, "fewest");
        c.due(0, y, "sure", 0, 1);
        c.due(1, y, "sure", 1, 0);
        c.due(0, y, "sure", 2, 1);
        c.due(0, y, "sure", 1, 2);
        overEachThird(c);
    }

    private static void overEachThird(Check c) {
        for (int i = 0; i < 8 * 8 * 8; i++) {
            int a = i / 64;
            int by = i / 8 % 8;
            int b = i % 8;
            if (a != by && by != b && a != b) {
                StoneRiver x = Worlds.ridges(8);
                x.fact(0, CUTS, by, b, 0);
                x.fact(0, CUTS, a, by, 0);
                c.due(1, x, "sure", a, b);
                c.due(0, x, "sure", b, a);
            }
        }
    }

    private static void leastAtWorst(Check c) {
        // 0 < 1, both 0 to 100; 2 apart: at its worst year 0 or 1 tells nothing of the other
        StoneRiver x = Worlds.ridges(3);
        x.fact(0, CUTS, 0, 1, 0);
        x.fact(0, FIND, 1, 100, 0);
        x.fact(0, FIND, 2, 99, 0);
        c.due(0, x, "core");
        StoneRiver y = Worlds.ridges(3);
        y.fact(0, CUTS, 0, 1, 0);
        y.fact(0, FIND, 1, 100, 0);
        y.fact(0, FIND, 2, 100, 0);
        c.due(2, y, "core");
        // the middle one of three: at its worst it leaves no more than one whole span of the others
        StoneRiver z = Worlds.ridges(4);
        z.fact(0, CUTS, 1, 3, 0);
        z.fact(0, CUTS, 3, 2, 0);
        z.fact(0, FIND, 2, 100, 0);
        z.fact(0, FIND, 0, 98, 0);
        c.due(3, z, "core");
        // 98 more without the middle one, less by as many years as 0 spans
        StoneRiver w = Worlds.ridges(4);
        w.fact(0, CUTS, 1, 3, 0);
        w.fact(0, CUTS, 3, 2, 0);
        w.fact(0, FIND, 2, 100, 0);
        w.fact(0, FIND, 0, 196, 0);
        c.due(0, w, "core");
        w.fact(0, FIND, 0, 195, 0);
        c.due(3, w, "core");
        // a single year more
        StoneRiver v = Worlds.ridges(2);
        v.fact(0, WOOD, 0, 5, 5);
        v.fact(0, WOOD, 1, 5, 6);
        c.due(1, v, "core");
        v.fact(0, WOOD, 1, 6, 6);
        c.due(0, v, "core");
    }

    private static void noYearInCommon(Check c) {
        StoneRiver x = Worlds.ridges(3);
        x.fact(0, FIND, 2, 50, 0);
        x.fact(1, MAP, 2, 50, 0);
        c.due(-1, x, "parted");
        x.fact(1, MAP, 2, 51, 0);
        c.due(2, x, "parted");
        x.fact(1, WOOD, 1, 7, 7);
        x.fact(0, WOOD, 1, 7, 7);
        c.due(2, x, "parted");
        x.fact(1, CUTS, 1, 0, 0);
        x.fact(0, WOOD, 0, 8, 8);
        c.due(2, x, "parted");
        x.fact(0, WOOD, 1, 7, 8);
        c.due(2, x, "parted");
        StoneRiver y = Worlds.ridges(2);
        y.fact(1, FIND, 1, 50, 0);
        y.fact(0, MAP, 1, 50, 0);
        c.due(-1, y, "parted");
        y.fact(0, MAP, 1, 51, 0);
        c.due(1, y, "parted");
        y.fact(0, MAP, 0, 3, 0);
        y.fact(1, FIND, 0, 2, 0);
        c.due(0, y, "parted");
        // the one's or the other's quarrel
        y.image(0);
        y.fact(0, FIND, 1, 50, 0);
        c.due(-5, y, "parted");
        y.from(0);
        y.fact(1, MAP, 1, 51, 0);
        c.due(-5, y, "parted");
        y.from(0);
        c.due(0, y, "parted");
    }

    private static void ridgeCalls(Edges e) {
        e.of("Promise 15", "A RIDGE: its number.", c -> {
            StoneRiver x = new StoneRiver();
            c.due(0, x, "ridge");
            c.due(1, x, "ridge");
            c.due(2, x, "count", 3);
        });
        e.of("Promise 15", "FULL: 8.", c -> {
            c.due(7, Worlds.ridges(7), "ridge");
            Edges.refused(c, -4, () -> Worlds.ridges(8), "ridge");
            Edges.refused(c, -4, Worlds::full, "ridge");
        });
    }

    private static void factCalls(Edges e) {
        e.of("Promise 16", "A FACT: its number", c -> {
            StoneRiver x = Worlds.ridges(3);
            c.due(0, x, "fact", 1, CUTS, 2, 1, 0);
            c.due(1, x, "fact", 1, CUTS, 2, 1, 0);
            c.due(2, x, "fact", 0, MAP, 2, 999, 0);
            c.due(3, x, "count", 4);
            for (int kind = 0; kind <= 4; kind++) {
                Edges.range(c, -2, THREE, "fact", args(0, kind, 2, 1, 1), 2, kind == CUTS ? 2 : 0, 2);
            }
            Edges.refused(c, -2, StoneRiver::new, "fact", 0, FIND, 0, 1, 0);
        });
        e.of("Promise 16", "(c is looked at for WOOD alone).", c -> {
            for (int kind = 0; kind <= 4; kind++) {
                for (int far : new int[] {Integer.MIN_VALUE, -1, 1000, Integer.MAX_VALUE}) {
                    StoneRiver x = Worlds.ridges(3);
                    c.due(kind == WOOD ? -2 : 0, x, "fact", 0, kind, 2, 1, far);
                    StoneRiver y = Worlds.ridges(3);
                    y.fact(0, kind, 2, 1, kind == WOOD ? far : 0);
                    c.due(y.digest(), x, "digest");
                }
            }
        });
        e.of("Promise 16", "BAD: CUTS of itself, too;", c -> {
            for (int i = 0; i < 3; i++) {
                Edges.refused(c, -2, THREE, "fact", 0, CUTS, i, i, 0);
                c.due(0, Worlds.ridges(3), "fact", 0, FIND, i, i, 0);
            }
            Edges.refused(c, -2, THREE, "fact", 0, CUTS, 0, 3, 0);
            Edges.refused(c, -2, THREE, "fact", 0, CUTS, 0, -1, 0);
            Edges.refused(c, -2, Worlds::full, "fact", 0, CUTS, 1, 1, 0);
        });
        e.of("Promise 16", "FULL: 16.", c -> {
            StoneRiver x = Worlds.ridges(2);
            for (int i = 0; i < 16; i++) {
                c.due(i, x, "fact", 0, i % 5, 1, i % 5 == CUTS ? 0 : 1, 1);
            }
            for (int kind = 0; kind <= 4; kind++) {
                c.due(-4, x, "fact", 1, kind, 0, 1, 1);
            }
            c.due(16, x, "count", 4);
            Edges.refused(c, -4, Worlds::full, "fact", 1, FIND, 0, 5, 0);
        });
    }

    private static void ageCalls(Edges e) {
        Supplier<StoneRiver> twoFacts = () -> {
            StoneRiver x = Worlds.ridges(3);
            x.fact(0, FIND, 0, 5, 0);
            x.fact(0, MAP, 0, 6, 0);
            return x;
        };
        e.of("Promise 17", "AGES of a RIDGE by FACTS (bits of those there): the least (0), the greatest (1).", c -> {
            span(c, twoFacts.get(), 0, 0, 0, 999);
            span(c, twoFacts.get(), 0, 1, 0, 5);
            span(c, twoFacts.get(), 0, 2, 6, 999);
            span(c, twoFacts.get(), 1, 1, 0, 999);
        });
        e.of("Promise 17", "BAD: -10;", c -> {
            Edges.range(c, -10, twoFacts, "age", args(1, 2, 0), 0, 0, 2);
            Edges.range(c, -10, twoFacts, "age", args(1, 2, 0), 1, 0, 3);
            Edges.range(c, -10, twoFacts, "age", args(1, 2, 0), 2, 0, 1);
            Edges.range(c, -10, THREE, "age", args(1, 0, 0), 1, 0, 0);
            Edges.range(c, -10, Worlds::full, "age", args(1, 0, 0), 1, 0, 65535);
            Edges.range(c, -10, Worlds::full, "age", args(1, 0, 0), 0, 0, 7);
            Edges.refused(c, -10, StoneRiver::new, "age", 0, 0, 0);
            // ahead of a quarrel
            Edges.refused(c, -10, twoFacts, "age", 3, 3, 0);
            Edges.refused(c, -10, twoFacts, "age", 0, 3, 2);
        });
        e.of("Promise 17", "QUARREL.", c -> {
            for (int ridge = 0; ridge < 3; ridge++) {
                Edges.refused(c, -5, twoFacts, "age", ridge, 3, 0);
                Edges.refused(c, -5, twoFacts, "age", ridge, 3, 1);
            }
        });
    }

    /** As many pairs of facts of which one must be left out. */
    private static StoneRiver quarrels(int many) {
        StoneRiver x = Worlds.ridges(8);
        for (int i = 0; i < many; i++) {
            x.fact(0, FIND, i, 5, 0);
            x.fact(1, MAP, i, 6, 0);
        }
        return x;
    }

    private static void fewestCalls(Edges e) {
        e.of("Promise 18", "FEWEST.", c -> {
            c.due(0, new StoneRiver(), "fewest");
            c.due(0, quarrels(0), "fewest");
            c.due(1, quarrels(1), "fewest");
            c.due(1 + 4 + 16 + 64, quarrels(4), "fewest");
            // what was asked ahead does not answer what is asked then
            StoneRiver x = quarrels(1);
            c.due(1, x, "fewest");
            x.fact(0, FIND, 0, 5, 0);
            c.due(2, x, "fewest");
            StoneRiver y = Worlds.ridges(1);
            y.fact(0, LICHEN, 0, 100, 0);
            c.due(1, y, "fewest");
            y.put(4, 9);
            c.due(0, y, "fewest");
            y.fact(0, WOOD, 0, 301, 301);
            c.due(1, y, "fewest");
            StoneRiver z = Worlds.ridges(1);
            z.fact(0, LICHEN, 0, 10, 0);
            z.fact(0, WOOD, 0, 301, 310);
            c.due(1, z, "fewest");
            z.put(5, 31);
            c.due(0, z, "fewest");
            z.put(5, 30);
            c.due(1, z, "fewest");
        });
        e.of("Promise 18", "-5: 4 do not do.", c -> {
            for (int many = 5; many <= 8; many++) {
                c.due(-5, quarrels(many), "fewest");
            }
            Edges.refused(c, -5, () -> quarrels(5), "fewest");
        });
    }

    private static void sureCalls(Edges e) {
        e.of("Promise 19", "SURE that a is younger than b: 1, 0.", c -> {
            StoneRiver x = Worlds.ridges(2);
            c.due(0, x, "sure", 0, 1);
            x.fact(0, CUTS, 1, 0, 0);
            c.due(1, x, "sure", 1, 0);
            c.due(0, x, "sure", 0, 1);
        });
        e.of("Promise 19", "BAD: alike, too;", c -> {
            for (int i = 0; i < 3; i++) {
                Edges.refused(c, -2, THREE, "sure", i, i);
            }
            Edges.range(c, -2, THREE, "sure", args(2, 1), 0, 2, 2);
            Edges.range(c, -2, THREE, "sure", args(0, 1), 1, 1, 2);
            Edges.refused(c, -2, () -> Worlds.ridges(1), "sure", 0, 1);
            Edges.refused(c, -2, () -> quarrels(5), "sure", 3, 3);
            Edges.refused(c, -2, () -> quarrels(5), "sure", 8, 0);
        });
        e.of("Promise 19", "QUARREL: 4 do not do.", c -> {
            c.due(0, quarrels(4), "sure", 6, 7);
            Edges.refused(c, -5, () -> quarrels(5), "sure", 6, 7);
        });
    }

    private static void coreCalls(Edges e) {
        e.of("Promise 20", "CORE.", c -> {
            c.due(0, Worlds.ridges(1), "core");
            c.due(0, Worlds.ridges(8), "core");
            StoneRiver x = Worlds.ridges(8);
            for (int i = 0; i < 7; i++) {
                x.fact(0, FIND, i, 998, 0);
            }
            c.due(7, x, "core");
            x.fact(0, FIND, 7, 997, 0);
            c.due(0, x, "core");
            // of the first and the last ridge by cuts: 1 is the first that none binds
            StoneRiver y = Worlds.ridges(8);
            y.fact(0, CUTS, 5, 0, 0);
            y.fact(0, CUTS, 3, 7, 0);
            c.due(1, y, "core");
        });
        e.of("Promise 20", "NONE: no RIDGES.", c -> {
            Edges.refused(c, -1, StoneRiver::new, "core");
            c.due(0, Worlds.ridges(1), "core");
        });
        e.of("Promise 20", "QUARREL: 4 do not do.", c -> {
            c.due(4, quarrels(4), "core");
            Edges.refused(c, -5, () -> quarrels(5), "core");
        });
    }

    private static void partedCalls(Edges e) {
        e.of("Promise 21", "PARTED.", c -> {
            c.due(0, quarrels(8), "parted");
            c.due(0, quarrels(1), "parted");
            StoneRiver x = Worlds.ridges(8);
            x.fact(0, FIND, 7, 5, 0);
            x.fact(1, MAP, 7, 6, 0);
            c.due(7, x, "parted");
        });
        e.of("Promise 21", "NONE.", c -> {
            c.due(-1, new StoneRiver(), "parted");
            c.due(-1, Worlds.ridges(8), "parted");
            StoneRiver x = Worlds.ridges(1);
            x.fact(0, WOOD, 0, 4, 6);
            x.fact(1, WOOD, 0, 6, 8);
            c.due(-1, x, "parted");
        });
        e.of("Promise 21", "QUARREL.", c -> {
            for (int scholar = 0; scholar < 2; scholar++) {
                StoneRiver x = Worlds.ridges(3);
                x.fact(scholar, FIND, 2, 5, 0);
                x.fact(scholar, MAP, 2, 6, 0);
                c.due(-5, x, "parted");
                // even where a ridge ahead is parted
                x.fact(0, FIND, 0, 5, 0);
                x.fact(1, MAP, 0, 6, 0);
                c.due(-5, x, "parted");
            }
        });
    }
}
