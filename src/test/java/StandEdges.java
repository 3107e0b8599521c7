import java.util.function.Supplier;

/** The sentences of stands, lakes and warmth, promises 22 to 29. */
final class StandEdges {
    private static final String TERMS = "Terms";
    private static final int AT = 0, FREE = 1, ICE = 2;

    private StandEdges() {
    }

    static void look(Edges e) {
        stands(e);
        signs(e);
        lakes(e);
        zones(e);
        signCalls(e);
        standCalls(e);
        areaCalls(e);
        lakeCalls(e);
        zoneCalls(e);
        warmCalls(e);
    }

    private static long[] args(long... args) {
        return args;
    }

    /** The travel, then years with the fronts of the first row. */
    private static void row(Check c, StoneRiver x, int travel, int... fronts) {
        c.due(travel, x, "stand", -1);
        for (int i = 0; i < fronts.length; i += 2) {
            c.due(fronts[i + 1], x, "stand", fronts[i]);
        }
    }

    private static void stands(Edges e) {
        e.of(TERMS, "3 STANDS: in YEARS 0 .. 39 the FRONT is at 0 .. 20;", c -> {
            for (int kind = 0; kind <= 2; kind++) {
                Edges.range(c, -2, "sign", args(kind, 7, 5, 9), 1, 0, 20);
                Edges.range(c, -2, "sign", args(kind, 7, 5, 9), 2, 0, 9);
                Edges.range(c, -2, "sign", args(kind, 7, 5, 9), 3, 5, 39);
            }
            Edges.range(c, -10, "stand", args(3), 0, -1, 39);
            StoneRiver x = new StoneRiver();
            x.sign(AT, 20, 0, 0);
            x.sign(AT, 0, 39, 39);
            row(c, x, 20, 0, 20, 39, 0);
            // in every year, and beyond neither end
            StoneRiver y = new StoneRiver();
            y.sign(FREE, 0, 0, 38);
            y.sign(ICE, 1, 39, 39);
            row(c, y, 1, 0, 0, 38, 0, 39, 1);
            y.sign(ICE, 20, 39, 39);
            c.due(-5, y, "stand", -1);
        });
        e.of(TERMS, "from YEAR to YEAR it moves by STRIDE at most (1 .. 20; 3 at first).", c -> {
            Edges.range(c, -2, "put", args(1, 3), 1, 1, 20);
            c.due(3, new StoneRiver(), "put", 1, 5);
            for (int stride = 1; stride <= 20; stride++) {
                for (int up = 0; up < 2; up++) {
                    StoneRiver x = new StoneRiver();
                    x.put(1, stride);
                    x.sign(AT, up == 0 ? stride : 0, 7, 7);
                    x.sign(AT, up == 0 ? 0 : stride, 8, 8);
                    row(c, x, stride);
                    x.put(1, Math.max(1, stride - 1));
                    c.due(stride == 1 ? 1 : -5, x, "stand", -1);
                }
            }
            StoneRiver y = new StoneRiver();
            y.sign(AT, 0, 4, 4);
            y.sign(AT, 20, 11, 11);
            row(c, y, 20, 5, 2, 6, 5, 11, 20);
            StoneRiver z = new StoneRiver();
            z.sign(AT, 0, 4, 4);
            z.sign(AT, 20, 10, 10);
            c.due(-5, z, "stand", -1);
        });
        e.of(TERMS, "TRAVEL: the least way (steps forth and back together) of all rows of FRONTS that bear all SIGNS; "
                + "the first row of these.", StandEdges::travels);
    }

    private static void travels(Check c) {
        StoneRiver x = new StoneRiver();
        for (int year = 0; year < 40; year++) {
            c.due(0, x, "stand", year);
        }
        // to the first year's front there is no way
        x.sign(ICE, 20, 0, 39);
        row(c, x, 0, 0, 20, 39, 20);
        StoneRiver z = new StoneRiver();
        z.sign(AT, 3, 0, 0);
        z.sign(AT, 5, 1, 1);
        z.sign(AT, 2, 38, 38);
        z.sign(AT, 4, 39, 39);
        row(c, z, 7, 0, 3, 1, 5, 2, 2, 37, 2, 38, 2, 39, 4);
        StoneRiver y = new StoneRiver();
        y.sign(AT, 3, 0, 0);
        y.sign(AT, 5, 10, 10);
        y.sign(AT, 3, 20, 20);
        row(c, y, 4, 9, 3, 10, 5, 11, 3, 39, 3);
        y.sign(AT, 4, 21, 39);
        // the last year is soon enough
        row(c, y, 5, 9, 3, 10, 5, 11, 3, 20, 3, 38, 3, 39, 4);
        c.due(4, y, "count", 5);
    }

    private static void signs(Edges e) {
        e.of(TERMS, "SIGNS 0 .. 9, as they come, of YEARS p to q:", c -> {
            StoneRiver x = new StoneRiver();
            for (int i = 0; i < 10; i++) {
                c.due(i, x, "sign", i % 2 == 0 ? AT : FREE, 20, i, i);
            }
            c.due(-4, x, "sign", FREE, 20, 5, 5);
            // p and q, too, and none beside them
            StoneRiver y = new StoneRiver();
            y.put(1, 20);
            y.sign(ICE, 5, 10, 12);
            y.sign(FREE, 0, 9, 9);
            y.sign(FREE, 0, 13, 13);
            row(c, y, 10, 8, 0, 9, 0, 10, 5, 11, 5, 12, 5, 13, 0);
        });
        e.of(TERMS, "KIND 0: in one of them at least the FRONT was at x (5 of these at most);", StandEdges::atOne);
        e.of(TERMS, "1: in all of them no farther than x;", c -> {
            StoneRiver x = new StoneRiver();
            x.sign(ICE, 4, 0, 39);
            x.sign(FREE, 4, 5, 30);
            row(c, x, 0, 0, 4, 39, 4);
            x.image(0);
            for (int year : new int[] {5, 6, 29, 30}) {
                x.from(0);
                x.sign(ICE, 5, year, year);
                c.due(-5, x, "stand", -1);
            }
            for (int year : new int[] {4, 31}) {
                x.from(0);
                x.sign(ICE, 5, year, year);
                row(c, x, 1, year, 5);
            }
        });
        e.of(TERMS, "2: in all of them x or farther.", c -> {
            StoneRiver x = new StoneRiver();
            x.sign(FREE, 4, 0, 39);
            x.sign(ICE, 4, 5, 30);
            row(c, x, 0, 0, 4, 39, 4);
            x.image(0);
            for (int year : new int[] {5, 6, 29, 30}) {
                x.from(0);
                x.sign(FREE, 3, year, year);
                c.due(-5, x, "stand", -1);
            }
            for (int year : new int[] {4, 31}) {
                x.from(0);
                x.sign(FREE, 3, year, year);
                row(c, x, 1, year, 3);
            }
            Edges.range(c, -2, "sign", args(2, 7, 5, 9), 0, 0, 2);
        });
    }

    private static void atOne(Check c) {
        StoneRiver x = new StoneRiver();
        x.sign(FREE, 0, 0, 4);
        x.sign(AT, 3, 4, 6);
        x.sign(FREE, 0, 6, 39);
        row(c, x, 6, 4, 0, 5, 3, 6, 0);
        x.sign(FREE, 2, 5, 5);
        c.due(-5, x, "stand", -1);
        // at x itself: to pass it is not enough
        StoneRiver y = new StoneRiver();
        y.put(1, 20);
        y.sign(AT, 0, 0, 0);
        y.sign(AT, 9, 1, 1);
        y.sign(AT, 4, 0, 1);
        c.due(-5, y, "stand", -1);
        y.sign(AT, 9, 0, 39);
        y.sign(AT, 9, 0, 39);
        c.due(-4, y, "sign", AT, 9, 0, 39);
        c.due(5, y, "sign", FREE, 9, 0, 39);
        // five, each by a year of its own
        StoneRiver z = new StoneRiver();
        z.put(1, 20);
        for (int i = 0; i < 5; i++) {
            z.sign(AT, 4 * i, 10, 14);
        }
        row(c, z, 16, 9, 0, 10, 0, 11, 4, 12, 8, 13, 12, 14, 16);
        z.sign(FREE, 20, 10, 10);
        z.sign(ICE, 1, 10, 13);
        row(c, z, 16, 9, 16, 10, 16, 11, 12, 12, 8, 13, 4, 14, 0);
    }

    private static void lakes(Edges e) {
        e.of(TERMS, "THE LAKE: levels 0 .. 19 have AREAS (0 .. 999; 0 at first).", c -> {
            Edges.range(c, -2, "area", args(7, 5), 0, 0, 19);
            Edges.range(c, -2, "area", args(7, 5), 1, 0, 999);
            StoneRiver x = new StoneRiver();
            c.due(0, x, "lake", 20, 0, 0);
            for (int level = 0; level < 20; level++) {
                c.due(0, x, "area", level, 999);
            }
            c.due(20 * 999, x, "lake", 20, 0, 0);
        });
        e.of(TERMS, "It stands at a height h (0 .. 20: all levels below are full) and breaks to a sill g (below h):",
                c -> {
                    StoneRiver x = steps();
                    for (int h = 1; h <= 20; h++) {
                        for (int g = 0; g < h; g++) {
                            c.due(h * (h + 1) / 2 - g * (g + 1) / 2, x, "lake", h, g, 0);
                        }
                        Edges.refused(c, -2, StandEdges::steps, "lake", h, h, 0);
                        Edges.refused(c, -2, StandEdges::steps, "lake", h, h + 1, 1);
                        Edges.refused(c, -2, StandEdges::steps, "lake", h, -1, 2);
                    }
                    for (int g = -1; g <= 21; g++) {
                        Edges.refused(c, -2, StandEdges::steps, "lake", 0, g, 0);
                        Edges.refused(c, -2, StandEdges::steps, "lake", 21, g, 0);
                    }
                });
        e.of(TERMS, "each hour RUNS (1 .. 999; 50 at first) times how many levels there are from the sill up to the "
                + "highest in which something is left runs out, of what is left above the sill at most, the highest "
                + "levels first.", StandEdges::hours);
        e.of(TERMS, "VOLUME above the sill; HOURS till that is gone; the GREATEST in an hour.", c -> {
            StoneRiver x = lake(999, 999, 30, 0, 21);
            broken(c, x, 5, 2, 51, 1, 51);
            broken(c, x, 4, 2, 30, 1, 30);
            broken(c, x, 4, 3, 0, 0, 0);
            broken(c, x, 5, 3, 21, 1, 21);
            broken(c, x, 5, 4, 21, 1, 21);
            broken(c, x, 20, 2, 51, 1, 51);
            broken(c, x, 20, 5, 0, 0, 0);
            broken(c, x, 1, 0, 999, 20, 50);
            broken(c, x, 2, 0, 1998, 30, 100);
            // the areas are as they were
            broken(c, x, 5, 2, 51, 1, 51);
        });
        e.of(TERMS, "By a shore that is h give or take e (0 .. 20; of heights above g, 20 at most): the least, the "
                + "greatest VOLUME.", StandEdges::shores);
    }

    /** Level by level 1, 2, 3 .. 20. */
    private static StoneRiver steps() {
        StoneRiver x = new StoneRiver();
        for (int level = 0; level < 20; level++) {
            x.area(level, level + 1);
        }
        return x;
    }

    private static StoneRiver lake(int... areas) {
        StoneRiver x = new StoneRiver();
        for (int level = 0; level < areas.length; level++) {
            x.area(level, areas[level]);
        }
        return x;
    }

    private static void broken(Check c, StoneRiver x, int h, int g, int volume, int hours, int greatest) {
        c.due(volume, x, "lake", h, g, 0);
        c.due(hours, x, "lake", h, g, 1);
        c.due(greatest, x, "lake", h, g, 2);
    }

    private static void hours(Check c) {
        Edges.range(c, -2, "put", args(2, 3), 1, 1, 999);
        c.due(50, new StoneRiver(), "put", 2, 1);
        // 4 times 50 of the upper ones; then of the 70 and 40 that are left 2 times 50; then 10
        StoneRiver x = lake(999, 999, 40, 100, 0, 170);
        broken(c, x, 6, 2, 310, 3, 200);
        broken(c, x, 20, 2, 310, 3, 200);
        broken(c, x, 5, 2, 140, 2, 100);
        // a level that is just emptied counts no more, one with a last drop does
        broken(c, lake(99, 100), 2, 0, 199, 3, 100);
        broken(c, lake(99, 101), 2, 0, 200, 2, 100);
        broken(c, lake(50), 1, 0, 50, 1, 50);
        broken(c, lake(51), 1, 0, 51, 2, 50);
        broken(c, lake(49), 1, 0, 49, 1, 49);
        StoneRiver y = lake(999, 999, 999);
        y.put(2, 999);
        broken(c, y, 1, 0, 999, 1, 999);
        broken(c, y, 3, 0, 2997, 1, 2997);
        y.put(2, 998);
        broken(c, y, 1, 0, 999, 2, 998);
        broken(c, y, 3, 0, 2997, 2, 2994);
        y.put(2, 1);
        broken(c, y, 3, 2, 999, 999, 1);
    }

    private static void between(Check c, StoneRiver x, int h, int g, int e, int lowest, int highest) {
        int below = g * (g + 1) / 2;
        c.due(lowest * (lowest + 1) / 2 - below, x, "shore", h, g, e, 0);
        c.due(highest * (highest + 1) / 2 - below, x, "shore", h, g, e, 1);
    }

    private static void shores(Check c) {
        Edges.range(c, -2, StandEdges::steps, "shore", args(7, 3, 2, 0), 2, 0, 20);
        Edges.range(c, -2, StandEdges::steps, "shore", args(7, 3, 2, 1), 2, 0, 20);
        StoneRiver x = steps();
        for (int h = 1; h <= 20; h++) {
            for (int g = 0; g < h; g++) {
                for (int e = 0; e <= 20; e += h % 2 == 0 ? 1 : 20) {
                    between(c, x, h, g, e, Math.max(g + 1, h - e), Math.min(20, h + e));
                }
            }
        }
        between(c, x, 7, 3, 0, 7, 7);
        between(c, x, 7, 3, 3, 4, 10);
        between(c, x, 7, 3, 4, 4, 11);
        between(c, x, 17, 3, 3, 14, 20);
        between(c, x, 17, 3, 4, 13, 20);
        between(c, x, 20, 19, 20, 20, 20);
        between(c, x, 1, 0, 20, 1, 20);
    }

    private static void zones(Edges e) {
        e.of(TERMS, "ZONES 0 .. 20 of the valley's line have HEIGHTS (0 .. 60; 0 at first).", c -> {
            Edges.range(c, -2, "zone", args(7, 5), 0, 0, 20);
            Edges.range(c, -2, "zone", args(7, 5), 1, 0, 60);
            StoneRiver x = new StoneRiver();
            for (int zone = 0; zone <= 20; zone++) {
                c.due(0, x, "zone", zone, 60);
            }
            for (int zone = 0; zone <= 20; zone++) {
                c.due(60, x, "zone", zone, 0);
            }
        });
        e.of(TERMS, "At WARMTH w, with SNOW s (0 .. 60 each) a ZONE gains s less MELT (1 .. 9; 2 at first) times what "
                + "w is above its HEIGHT (0 if it is not).", StandEdges::gains);
        e.of(TERMS, "The ice STANDS at the last ZONE x so that ZONES 0 to x gain 0 or more together (NONE: none).",
                StandEdges::lastZone);
        e.of(TERMS, "WARM: the least, the greatest w with which it STANDS at x, with s.", c -> {
            StoneRiver x = heights(30, 10);
            warmth(c, x, 20, 0, 0, 10);
            warmth(c, x, 0, 0, 11, 30);
            warmth(c, x, 5, 0, -1, -1);
            x.zone(0, 60);
            warmth(c, x, 0, 0, 11, 60);
            x.zone(0, 0);
            warmth(c, x, 0, 0, -1, -1);
            warmth(c, x, 20, 0, 0, 0);
            warmth(c, heights(60, 60), 20, 0, 0, 60);
            warmth(c, heights(60, 59), 0, 0, 60, 60);
            warmth(c, heights(1, 0), 20, 0, 0, 0);
            warmth(c, heights(1, 0), 0, 0, 1, 1);
            warmth(c, heights(0, 0), 20, 60, 0, 30);
            warmth(c, heights(0, 0), 20, 59, 0, 29);
            warmth(c, heights(0, 0), 19, 59, -1, -1);
        });
    }

    /** The first zone's height and that of all others. */
    private static StoneRiver heights(int first, int others) {
        StoneRiver x = new StoneRiver();
        for (int zone = 0; zone <= 20; zone++) {
            x.zone(zone, zone == 0 ? first : others);
        }
        return x;
    }

    private static void gains(Check c) {
        for (int at = 0; at < 2; at++) {
            Edges.range(c, -10, "ice", args(7, 5), at, 0, 60);
        }
        Edges.range(c, -2, "warm", args(7, 5, 0), 1, 0, 60);
        Edges.range(c, -2, "put", args(3, 3), 1, 1, 9);
        c.due(2, new StoneRiver(), "put", 3, 1);
        // the first zone alone keeps its ice, by just so much snow
        for (int melt = 1; melt <= 9; melt++) {
            for (int above = 1; above < 60 && above * melt <= 60; above++) {
                StoneRiver x = heights(60 - above, 0);
                x.put(3, melt);
                c.due(0, x, "ice", 60, melt * above);
                c.due(-1, x, "ice", 60, melt * above - 1);
            }
        }
        // what is below a height is no gain
        StoneRiver y = heights(60, 0);
        c.due(20, y, "ice", 0, 0);
        c.due(0, y, "ice", 1, 0);
        c.due(0, y, "ice", 60, 0);
        StoneRiver z = heights(59, 0);
        c.due(0, z, "ice", 59, 0);
        c.due(-1, z, "ice", 60, 1);
        c.due(0, z, "ice", 60, 2);
    }

    private static void lastZone(Check c) {
        c.due(20, new StoneRiver(), "ice", 0, 0);
        c.due(-1, new StoneRiver(), "ice", 1, 0);
        c.due(-1, new StoneRiver(), "ice", 1, 1);
        c.due(20, new StoneRiver(), "ice", 1, 2);
        // -1, 0, then less; none by one snow less
        StoneRiver x = new StoneRiver();
        x.zone(1, 60);
        c.due(1, x, "ice", 1, 1);
        c.due(-1, x, "ice", 1, 0);
        // 1, 0, 1, 0, then less
        StoneRiver y = new StoneRiver();
        y.put(3, 1);
        y.zone(0, 60);
        y.zone(2, 60);
        c.due(3, y, "ice", 2, 1);
        // less than 0 ahead of the last one
        StoneRiver z = heights(0, 60);
        z.put(3, 1);
        c.due(20, z, "ice", 21, 1);
        c.due(-1, z, "ice", 22, 1);
        StoneRiver w = heights(60, 60);
        w.zone(20, 0);
        c.due(19, w, "ice", 60, 5);
        c.due(20, w, "ice", 60, 6);
    }

    private static void warmth(Check c, StoneRiver x, int zone, int s, int least, int greatest) {
        c.due(least, x, "warm", zone, s, 0);
        c.due(greatest, x, "warm", zone, s, 1);
    }

    private static void signCalls(Edges e) {
        e.of("Promise 22", "A SIGN: its number.", c -> {
            StoneRiver x = new StoneRiver();
            c.due(0, x, "sign", ICE, 20, 39, 39);
            c.due(1, x, "sign", AT, 0, 0, 39);
            c.due(2, x, "sign", AT, 0, 0, 39);
            c.due(3, x, "count", 5);
        });
        e.of("Promise 22", "BAD: q below p, too;", c -> {
            for (int kind = 0; kind <= 2; kind++) {
                Edges.refused(c, -2, Worlds::some, "sign", kind, 7, 6, 5);
                Edges.refused(c, -2, Worlds::some, "sign", kind, 7, 39, 0);
                Edges.refused(c, -2, Worlds::full, "sign", kind, 7, 6, 5);
                c.due(0, new StoneRiver(), "sign", kind, 7, 6, 6);
            }
            Edges.range(c, -2, "sign", args(AT, 7, 11, 11), 3, 11, 39);
            Edges.range(c, -2, "sign", args(AT, 7, 11, 11), 2, 0, 11);
        });
        e.of("Promise 22", "FULL: 10, 5 of KIND 0.", c -> {
            StoneRiver x = new StoneRiver();
            c.due(0, x, "sign", FREE, 7, 5, 5);
            for (int i = 1; i <= 5; i++) {
                c.due(i, x, "sign", AT, 7, 5, 5);
            }
            c.due(-4, x, "sign", AT, 7, 5, 5);
            c.due(-2, x, "sign", AT, 21, 5, 5);
            for (int i = 6; i < 10; i++) {
                c.due(i, x, "sign", 1 + i % 2, 7, 5, 5);
            }
            for (int kind = 0; kind <= 2; kind++) {
                c.due(-4, x, "sign", kind, 7, 5, 5);
                Edges.refused(c, -4, Worlds::full, "sign", kind, 7, 5, 5);
            }
            c.due(10, x, "count", 5);
            StoneRiver y = new StoneRiver();
            for (int i = 0; i < 10; i++) {
                c.due(i, y, "sign", ICE, 7, 5, 5);
            }
            c.due(-4, y, "sign", AT, 7, 5, 5);
        });
    }

    private static void standCalls(Edges e) {
        Supplier<StoneRiver> noRow = () -> {
            StoneRiver x = new StoneRiver();
            x.sign(FREE, 4, 5, 5);
            x.sign(ICE, 5, 5, 5);
            return x;
        };
        e.of("Promise 23", "TRAVEL (year = NONE), the FRONT in a YEAR of the first row.", c -> {
            StoneRiver x = new StoneRiver();
            x.sign(AT, 8, 39, 39);
            row(c, x, 0, 0, 8, 39, 8);
            x.sign(AT, 6, 0, 0);
            row(c, x, 2, 0, 6, 38, 6, 39, 8);
            // what was asked ahead does not answer what is asked then
            x.put(1, 1);
            row(c, x, 2, 0, 6, 37, 6, 38, 7, 39, 8);
            x.sign(FREE, 7, 38, 38);
            x.sign(ICE, 7, 37, 37);
            row(c, x, 2, 36, 6, 37, 7, 38, 7, 39, 8);
        });
        e.of("Promise 23", "-5: no row bears all.", c -> {
            for (int year = -1; year < 40; year++) {
                c.due(-5, noRow.get(), "stand", year);
            }
            StoneRiver x = new StoneRiver();
            x.sign(FREE, 5, 5, 5);
            x.sign(ICE, 5, 5, 5);
            row(c, x, 0, 5, 5);
        });
        e.of("Promise 23", "BAD: -10.", c -> {
            Edges.range(c, -10, "stand", args(0), 0, -1, 39);
            Edges.range(c, -10, noRow, "stand", args(0), 0, -1, 39);
        });
    }

    private static void areaCalls(Edges e) {
        e.of("Promise 24", "AREA of a level: what it was.", c -> {
            StoneRiver x = new StoneRiver();
            c.due(0, x, "area", 19, 999);
            c.due(999, x, "area", 19, 3);
            c.due(3, x, "area", 19, 0);
            c.due(0, x, "area", 19, 0);
            c.due(0, x, "area", 0, 8);
            c.due(0, x, "area", 1, 9);
            c.due(8, x, "area", 0, 8);
        });
        e.of("Promise 24", "BAD.", c -> {
            Edges.refused(c, -2, Worlds::some, "area", -1, 0);
            Edges.refused(c, -2, Worlds::some, "area", 20, 0);
            Edges.refused(c, -2, Worlds::some, "area", 0, -1);
            Edges.refused(c, -2, Worlds::some, "area", 0, 1000);
        });
    }

    private static void lakeCalls(Edges e) {
        e.of("Promise 25", "VOLUME (0), HOURS (1), the GREATEST (2) from h to the sill g.", c -> {
            broken(c, lake(7, 60, 80), 3, 1, 140, 2, 100);
            broken(c, lake(7, 60, 80), 3, 0, 147, 1, 147);
            broken(c, lake(7, 60, 80), 2, 0, 67, 1, 67);
            broken(c, lake(7, 60, 80), 2, 1, 60, 2, 50);
        });
        e.of("Promise 25", "BAD.", c -> {
            Edges.range(c, -2, "lake", args(20, 0, 0), 0, 1, 20);
            Edges.range(c, -2, "lake", args(5, 2, 1), 0, 3, 20);
            Edges.range(c, -2, "lake", args(5, 2, 1), 1, 0, 4);
            Edges.range(c, -2, "lake", args(20, 2, 1), 1, 0, 19);
            Edges.range(c, -2, "lake", args(5, 2, 1), 2, 0, 2);
        });
        e.of("Promise 25", "(HOURS 1000 at most.)", c -> {
            int[] hours = {999, 999, 1000, 1000, 1000, 1000, 1000};
            for (int upper = 0; upper < 7; upper++) {
                // 999 hours by one, and one hour for each two of the upper level: 1001 by 4
                StoneRiver x = lake(999, upper);
                x.put(2, 1);
                broken(c, x, 2, 0, 999 + upper, hours[upper], upper == 0 ? 1 : 2);
            }
            StoneRiver y = new StoneRiver();
            y.put(2, 1);
            for (int level = 0; level < 20; level++) {
                y.area(level, 999);
            }
            broken(c, y, 20, 0, 19980, 1000, 20);
        });
        e.of("Promise 26", "The least (0), the greatest VOLUME (1).", c -> {
            StoneRiver x = lake(7, 60, 80, 900);
            c.due(60, x, "shore", 3, 1, 1, 0);
            c.due(1040, x, "shore", 3, 1, 1, 1);
            c.due(140, x, "shore", 3, 1, 0, 0);
            c.due(140, x, "shore", 3, 1, 0, 1);
        });
        e.of("Promise 26", "BAD.", c -> {
            Edges.range(c, -2, "shore", args(20, 0, 3, 0), 0, 1, 20);
            Edges.range(c, -2, "shore", args(5, 2, 9, 1), 0, 3, 20);
            Edges.range(c, -2, "shore", args(5, 2, 9, 1), 1, 0, 4);
            Edges.range(c, -2, "shore", args(5, 2, 9, 1), 2, 0, 20);
            Edges.range(c, -2, "shore", args(5, 2, 9, 1), 3, 0, 1);
        });
    }

    private static void zoneCalls(Edges e) {
        e.of("Promise 27", "HEIGHT of a ZONE: what it was.", c -> {
            StoneRiver x = new StoneRiver();
            c.due(0, x, "zone", 20, 60);
            c.due(60, x, "zone", 20, 3);
            c.due(3, x, "zone", 20, 0);
            c.due(0, x, "zone", 20, 0);
            c.due(0, x, "zone", 0, 8);
            c.due(0, x, "zone", 1, 9);
            c.due(8, x, "zone", 0, 8);
        });
        e.of("Promise 27", "BAD.", c -> {
            Edges.refused(c, -2, Worlds::some, "zone", -1, 0);
            Edges.refused(c, -2, Worlds::some, "zone", 21, 0);
            Edges.refused(c, -2, Worlds::some, "zone", 0, -1);
            Edges.refused(c, -2, Worlds::some, "zone", 0, 61);
        });
        e.of("Promise 28", "Where the ice STANDS.", c -> {
            StoneRiver x = heights(40, 30);
            c.due(20, x, "ice", 30, 0);
            c.due(0, x, "ice", 31, 0);
            c.due(1, x, "ice", 31, 1);
            c.due(20, x, "ice", 31, 2);
        });
        e.of("Promise 28", "NONE.", c -> {
            c.due(-1, heights(40, 30), "ice", 41, 0);
            c.due(-1, heights(40, 60), "ice", 60, 1);
            c.due(-1, new StoneRiver(), "ice", 60, 60);
            c.due(-1, heights(59, 0), "ice", 60, 1);
        });
        e.of("Promise 28", "BAD: -10.", c -> {
            Edges.refused(c, -10, Worlds::some, "ice", -1, 0);
            Edges.refused(c, -10, Worlds::some, "ice", 61, 0);
            Edges.refused(c, -10, Worlds::some, "ice", 0, -1);
            Edges.refused(c, -10, Worlds::some, "ice", 0, 61);
        });
    }

    private static void warmCalls(Edges e) {
        e.of("Promise 29", "WARM: the least (0), the greatest (1).", c -> {
            warmth(c, heights(40, 30), 20, 0, 0, 30);
            warmth(c, heights(40, 30), 0, 0, 31, 40);
            warmth(c, heights(40, 30), 1, 1, 31, 31);
        });
        e.of("Promise 29", "NONE: no w.", c -> {
            warmth(c, heights(40, 30), 1, 0, -1, -1);
            warmth(c, heights(60, 60), 0, 60, -1, -1);
            warmth(c, heights(60, 60), 19, 0, -1, -1);
            // the first zone's loss is made good by the next ones, or by none at all
            warmth(c, heights(0, 60), 0, 0, -1, -1);
        });
        e.of("Promise 29", "BAD.", c -> {
            Edges.range(c, -2, "warm", args(7, 5, 0), 0, 0, 20);
            Edges.range(c, -2, "warm", args(7, 5, 1), 1, 0, 60);
            Edges.range(c, -2, "warm", args(7, 5, 0), 2, 0, 1);
        });
    }
}
