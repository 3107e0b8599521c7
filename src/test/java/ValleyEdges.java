import java.util.function.Supplier;

/** The sentences of the valley, promises 1 to 14. */
final class ValleyEdges {
    private static final String TERMS = "Terms";
    // a row up, a row down, and so on round
    private static final int[] AROUND_27 = {19, 20, 28, 36, 35, 34, 26, 18};

    private ValleyEdges() {
    }

    static void look(Edges e) {
        places(e);
        flows(e);
        stones(e);
        scratches(e);
        newObject(e);
        surfaceAndSlope(e);
        flowCalls(e);
        stoneCalls(e);
        boulderCalls(e);
        scratchCalls(e);
        laidCalls(e);
    }

    private static long[] args(long... args) {
        return args;
    }

    private static void places(Edges e) {
        e.of("What it is", "THE VALLEY has 64 PLACES (8 times the row and the column, 0 ..", c -> {
            Edges.range(c, -2, "surface", args(0, 9, 5), 1, 0, 63);
            Edges.range(c, -2, "flow", args(0, 9), 1, 0, 63);
            Edges.range(c, -2, "cliff", args(9, 5), 0, 0, 63);
            Edges.range(c, -2, "boulder", args(9, 5), 0, 0, 63);
            Edges.range(c, -2, "upstream", args(9), 0, 0, 63);
            Edges.range(c, -2, "scratch", args(9, 5), 0, 0, 63);
        });
        e.of(TERMS, "7 each).", c -> {
            Edges.range(c, -2, "slope", args(0, 1, 20, 5), 1, 0, 7);
            StoneRiver x = new StoneRiver();
            for (int row = 0; row < 8; row++) {
                x.slope(1, row, 10 + 10 * row, 1);
            }
            for (int row = 0; row < 8; row++) {
                for (int column = 0; column < 8; column++) {
                    c.due(10 + 10 * row - column, x, "surface", 1, 8 * row + column, 0);
                }
            }
        });
        e.of(TERMS, "STAGES 0, 1, 2, one behind the other:", c -> {
            Edges.range(c, -2, "surface", args(1, 9, 5), 0, 0, 2);
            Edges.range(c, -2, "slope", args(1, 1, 20, 5), 0, 0, 2);
            Edges.range(c, -2, "flow", args(1, 9), 0, 0, 2);
        });
        e.of(TERMS, "in each every PLACE has a SURFACE (0 .. 99; 0, no ice, at first).", c -> {
            StoneRiver x = new StoneRiver();
            for (int i = 0; i < 192; i++) {
                c.due(0, x, "surface", i / 64, i % 64, 0);
            }
            Edges.range(c, -2, "surface", args(1, 9, 5), 2, 0, 99);
            StoneRiver y = new StoneRiver();
            c.due(0, y, "surface", 1, 9, 99);
            c.due(0, y, "surface", 0, 9, 1);
            c.due(0, y, "surface", 2, 9, 2);
            c.due(99, y, "surface", 1, 9, 0);
            c.due(0, y, "surface", 1, 9, 0);
        });
    }

    private static void flows(Edges e) {
        e.of(TERMS, "FLOW of a PLACE with ice:", c -> {
            StoneRiver x = new StoneRiver();
            c.due(-1, x, "flow", 0, 9);
            x.surface(0, 9, 1);
            c.due(0, x, "flow", 0, 9);
            c.due(-1, x, "flow", 1, 9);
            x.surface(0, 9, 0);
            c.due(-1, x, "flow", 0, 9);
        });
        e.of(TERMS, "to that of the 8 PLACES round it (directions 0 up, a row less; 1 up and right, .. round, "
                + "7 up and left)", c -> {
            for (int direction = 0; direction < 8; direction++) {
                StoneRiver x = new StoneRiver();
                Worlds.flat(x, 2, 60);
                x.surface(2, AROUND_27[direction], 50);
                c.due(direction, x, "flow", 2, 27);
            }
        });
        e.of(TERMS, "that is lowest there, if it is lower,", ValleyEdges::lowestIfLower);
        e.of(TERMS, "of like ones by the least direction;", ValleyEdges::likeOnes);
        e.of(TERMS, "else none (beyond the VALLEY is nothing).", ValleyEdges::beyondTheValley);
    }

    private static void lowestIfLower(Check c) {
        StoneRiver x = new StoneRiver();
        Worlds.flat(x, 0, 60);
        c.due(-1, x, "flow", 0, 27);
        x.surface(0, 27, 59);
        c.due(-1, x, "flow", 0, 27);
        x.surface(0, 27, 61);
        c.due(0, x, "flow", 0, 27);
        // none but the lowest of the eight, wherever it is
        for (int direction = 0; direction < 8; direction++) {
            StoneRiver y = new StoneRiver();
            Worlds.flat(y, 0, 60);
            for (int other = 0; other < 8; other++) {
                y.surface(0, AROUND_27[other], other == direction ? 50 : 51);
            }
            c.due(direction, y, "flow", 0, 27);
        }
    }

    private static void likeOnes(Check c) {
        for (int first = 0; first < 8; first++) {
            for (int second = first + 1; second < 8; second++) {
                StoneRiver x = new StoneRiver();
                Worlds.flat(x, 0, 60);
                x.surface(0, AROUND_27[first], 50);
                x.surface(0, AROUND_27[second], 50);
                c.due(first, x, "flow", 0, 27);
                x.surface(0, AROUND_27[second], 49);
                c.due(second, x, "flow", 0, 27);
            }
        }
    }

    /** At the edge a place looks at five, in the corner at three; the ends of two rows do not touch. */
    private static void beyondTheValley(Check c) {
        StoneRiver x = new StoneRiver();
        Worlds.flat(x, 0, 60);
        for (int place = 0; place < 64; place++) {
            c.due(-1, x, "flow", 0, place);
        }
        int[][] corners = {{0, 2, 3, 4}, {7, 4, 5, 6}, {56, 0, 1, 2}, {63, 0, 6, 7}};
        for (int[] corner : corners) {
            StoneRiver y = new StoneRiver();
            y.surface(0, corner[0], 1);
            c.due(corner[1], y, "flow", 0, corner[0]);
            int[] steps = {-8, -7, 1, 9, 8, 7, -1, -9};
            y.surface(0, corner[0] + steps[corner[1]], 1);
            c.due(corner[2], y, "flow", 0, corner[0]);
            y.surface(0, corner[0] + steps[corner[2]], 1);
            c.due(corner[3], y, "flow", 0, corner[0]);
            y.surface(0, corner[0] + steps[corner[3]], 1);
            c.due(-1, y, "flow", 0, corner[0]);
        }
        StoneRiver z = new StoneRiver();
        Worlds.flat(z, 0, 60);
        z.surface(0, 24, 1);
        c.due(-1, z, "flow", 0, 23);
        c.due(-1, z, "flow", 0, 31);
        c.due(-1, z, "flow", 0, 15);
        z.surface(0, 39, 1);
        c.due(-1, z, "flow", 0, 40);
        c.due(0, z, "flow", 0, 32);
        c.due(-1, z, "flow", 0, 48);
    }

    private static void stones(Edges e) {
        e.of(TERMS, "A stone is CARRIED: in each STAGE, from the first to the last,", ValleyEdges::stageBehindStage);
        e.of(TERMS, "any number of steps by FLOW (none, too); then it lies.", ValleyEdges::anyNumberOfSteps);
        e.of(TERMS, "CLIFFS 0 .. 7, as they come: PLACE, SORT (0 .. 5).", c -> {
            StoneRiver x = new StoneRiver();
            for (int i = 0; i < 8; i++) {
                c.due(i, x, "cliff", 63 - i, i % 6);
            }
            c.due(-4, x, "cliff", 3, 3);
            Edges.range(c, -2, "cliff", args(9, 3), 1, 0, 5);
        });
        e.of(TERMS, "BOULDERS 0 .. 9: likewise, where they lie.", c -> {
            StoneRiver x = new StoneRiver();
            for (int i = 0; i < 10; i++) {
                c.due(i, x, "boulder", 63 - i, i % 6);
            }
            c.due(-4, x, "boulder", 3, 3);
            Edges.range(c, -2, "boulder", args(9, 3), 1, 0, 5);
        });
        e.of(TERMS, "FITS: CLIFFS of a BOULDER's SORT from which it can have been CARRIED to where it lies, as bits.",
                ValleyEdges::fitting);
        e.of(TERMS, "STEPS from a CLIFF: the fewest in all STAGES together.", ValleyEdges::fewestTogether);
        e.of(TERMS, "FROM: of those that FIT the one with the fewest STEPS, of like ones the least.",
                ValleyEdges::nearestOfThoseThatFit);
        e.of(TERMS, "ABOVE: how many PLACES there are from which a stone can have come to a PLACE (itself, too).",
                ValleyEdges::above);
    }

    /** By stage first 17 to 9, by stage second 9 to 1. */
    private static StoneRiver twoSteps(int first, int second) {
        StoneRiver x = new StoneRiver();
        x.surface(first, 17, 5);
        x.surface(second, 9, 5);
        x.cliff(17, 0);
        x.boulder(1, 0);
        return x;
    }

    private static void stageBehindStage(Check c) {
        c.due(2, twoSteps(0, 1), "steps", 0, 0);
        c.due(2, twoSteps(1, 2), "steps", 0, 0);
        c.due(2, twoSteps(0, 2), "steps", 0, 0);
        c.due(-1, twoSteps(1, 0), "steps", 0, 0);
        c.due(-1, twoSteps(2, 1), "steps", 0, 0);
        c.due(-1, twoSteps(2, 0), "steps", 0, 0);
        StoneRiver x = new StoneRiver();
        x.surface(0, 25, 5);
        x.surface(1, 17, 5);
        x.surface(2, 9, 5);
        x.cliff(25, 0);
        x.boulder(1, 0);
        x.boulder(9, 0);
        x.boulder(17, 0);
        c.due(3, x, "steps", 0, 0);
        c.due(2, x, "steps", 1, 0);
        c.due(1, x, "steps", 2, 0);
    }

    /** 28 steps, row by row, with a row of higher ice between. */
    private static final int[] LONG_WAY = {0, 1, 2, 3, 4, 5, 6, 15, 22, 21, 20, 19, 18, 17, 24, 33, 34, 35, 36, 37,
        38, 47, 54, 53, 52, 51, 50, 49, 48};

    private static void anyNumberOfSteps(Check c) {
        for (int stage = 0; stage < 3; stage++) {
            StoneRiver x = new StoneRiver();
            Worlds.way(x, stage, LONG_WAY);
            x.cliff(0, 0);
            x.cliff(48, 0);
            for (int i = 0; i < 9; i++) {
                x.boulder(LONG_WAY[i], 0);
                c.due(i, x, "steps", i, 0);
            }
            x.boulder(48, 0);
            c.due(28, x, "steps", 9, 0);
            c.due(0, x, "steps", 9, 1);
            c.due(-1, x, "steps", 0, 1);
        }
        StoneRiver bare = new StoneRiver();
        bare.cliff(30, 0);
        bare.boulder(30, 0);
        c.due(0, bare, "steps", 0, 0);
    }

    private static void fitting(Check c) {
        StoneRiver x = new StoneRiver();
        Worlds.way(x, 1, LONG_WAY);
        x.boulder(4, 2);
        c.due(0, x, "fits", 0);
        // at the first place, of the first sort, there is no cliff unless it came there
        x.boulder(0, 0);
        c.due(0, x, "fits", 1);
        x.cliff(4, 2);
        c.due(1, x, "fits", 0);
        x.cliff(3, 1);
        x.cliff(3, 3);
        c.due(1, x, "fits", 0);
        x.cliff(5, 2);
        c.due(1, x, "fits", 0);
        x.cliff(0, 2);
        c.due(1 + 16, x, "fits", 0);
        x.cliff(48, 2);
        x.cliff(48, 2);
        x.cliff(3, 2);
        c.due(1 + 16 + 128, x, "fits", 0);
    }

    private static void fewestTogether(Check c) {
        StoneRiver x = new StoneRiver();
        Worlds.way(x, 0, LONG_WAY);
        x.cliff(0, 0);
        x.boulder(48, 0);
        c.due(28, x, "steps", 0, 0);
        Worlds.way(x, 2, LONG_WAY);
        c.due(28, x, "steps", 0, 0);
        // one step of the long way, from there beside the short one to its second place, and on
        Worlds.way(x, 1, 2, 10, 18, 26, 33, 40, 48);
        c.due(7, x, "steps", 0, 0);
        Worlds.way(x, 2, 0, 8, 16, 24, 32, 40, 48);
        c.due(6, x, "steps", 0, 0);
    }

    private static void nearestOfThoseThatFit(Check c) {
        StoneRiver x = new StoneRiver();
        Worlds.way(x, 0, LONG_WAY);
        x.boulder(4, 2);
        x.cliff(0, 2);
        c.due(0, x, "home", 0);
        x.cliff(3, 1);
        c.due(0, x, "home", 0);
        x.cliff(5, 2);
        c.due(0, x, "home", 0);
        x.cliff(0, 2);
        c.due(0, x, "home", 0);
        x.cliff(1, 2);
        c.due(4, x, "home", 0);
        x.cliff(1, 2);
        c.due(4, x, "home", 0);
        x.cliff(3, 2);
        c.due(6, x, "home", 0);
        x.cliff(4, 2);
        c.due(7, x, "home", 0);
        StoneRiver first = new StoneRiver();
        first.boulder(0, 0);
        c.due(-1, first, "home", 0);
        first.cliff(0, 0);
        c.due(0, first, "home", 0);
    }

    private static void above(Check c) {
        c.due(1, new StoneRiver(), "upstream", 0);
        c.due(1, new StoneRiver(), "upstream", 63);
        StoneRiver x = new StoneRiver();
        for (int place = 0; place < 64; place++) {
            int rows = Math.abs(place / 8 - 3);
            int columns = Math.abs(place % 8 - 3);
            x.surface(1, place, 10 + 10 * Math.max(rows, columns));
        }
        c.due(64, x, "upstream", 27);
        c.due(1, x, "upstream", 0);
        c.due(1, x, "upstream", 63);
        StoneRiver y = new StoneRiver();
        Worlds.way(y, 2, LONG_WAY);
        c.due(64, y, "upstream", 48);
        c.due(1, y, "upstream", 0);
        c.due(2, twoSteps(1, 0), "upstream", 1);
        c.due(3, twoSteps(0, 1), "upstream", 1);
    }

    private static void scratches(Edges e) {
        e.of(TERMS, "SCRATCHES 0 .. 9, as they come: at a PLACE, with a DIRECTION (0 .. 15, two for each step of "
                + "those above),", c -> {
            StoneRiver x = new StoneRiver();
            for (int i = 0; i < 10; i++) {
                c.due(i, x, "scratch", 63 - i, i + 6);
            }
            c.due(-4, x, "scratch", 3, 3);
            Edges.range(c, -2, "scratch", args(9, 3), 1, 0, 15);
            for (int flow = 0; flow < 8; flow++) {
                for (int direction = 0; direction < 16; direction++) {
                    c.due(direction == 2 * flow ? 1 : 0, scratched(flow, direction, 0), "may", 0);
                }
            }
        });
        e.of(TERMS, "newer than those at that PLACE ahead.", c -> {
            // 0 must be of stage 1, 1 of stage 0: the older can not be the later one, but at another place
            StoneRiver x = upThenDown();
            x.scratch(9, 6);
            x.scratch(9, 0);
            c.due(0, x, "laid", -1);
            StoneRiver y = upThenDown();
            y.scratch(9, 0);
            y.scratch(9, 6);
            c.due(1, y, "laid", -1);
            StoneRiver z = upThenDown();
            z.scratch(9, 6);
            z.scratch(10, 0);
            c.due(1, z, "laid", -1);
        });
        e.of(TERMS, "MAY of a SCRATCH: STAGES, as bits, in which FLOW of its PLACE", c -> {
            for (int bits = 0; bits < 8; bits++) {
                StoneRiver x = new StoneRiver();
                x.put(0, 0);
                for (int stage = 0; stage < 3; stage++) {
                    x.surface(stage, 9, bits >> stage & 1);
                }
                x.scratch(9, 0);
                c.due(bits, x, "may", 0);
            }
        });
        e.of(TERMS, "is no more than TURN (0 .. 7; 1 at first) sixteenths round from its DIRECTION (either way round "
                + "the 16).", ValleyEdges::turns);
        e.of(TERMS, "LAID: a row that gives each SCRATCH a STAGE of MAY, at each PLACE none earlier than those ahead "
                + "there: how many rows; the first.", ValleyEdges::rows);
    }

    /** At 27 the ice of stage 0 flows in that direction; a scratch is there. */
    private static StoneRiver scratched(int flow, int direction, int turn) {
        StoneRiver x = new StoneRiver();
        Worlds.flat(x, 0, 60);
        x.surface(0, AROUND_27[flow], 50);
        x.put(0, turn);
        x.scratch(27, direction);
        return x;
    }

    /** At 9 and 10 the ice flows up (0) in stage 0, down and right (3) in stage 1. */
    private static StoneRiver upThenDown() {
        StoneRiver x = new StoneRiver();
        for (int row = 0; row < 8; row++) {
            x.slope(0, row, 10 + row, 0);
            x.slope(1, row, 20 - row, 0);
        }
        x.put(0, 0);
        return x;
    }

    private static void turns(Check c) {
        Edges.range(c, -2, "put", args(0, 3), 1, 0, 7);
        c.due(1, new StoneRiver(), "put", 0, 5);
        for (int flow = 0; flow < 8; flow++) {
            for (int turn = 0; turn < 8; turn++) {
                for (int round = -7; round <= 8; round++) {
                    int due = Math.abs(round) <= turn ? 1 : 0;
                    c.due(due, scratched(flow, Math.floorMod(2 * flow + round, 16), turn), "may", 0);
                }
            }
        }
        StoneRiver bare = new StoneRiver();
        bare.put(0, 7);
        bare.scratch(3, 3);
        c.due(0, bare, "may", 0);
    }

    private static void rows(Check c) {
        c.due(1, new StoneRiver(), "laid", -1);
        StoneRiver bare = new StoneRiver();
        bare.scratch(0, 4);
        c.due(0, bare, "laid", -1);
        bare.surface(0, 0, 1);
        c.due(1, bare, "laid", -1);
        bare.scratch(0, 4);
        c.due(1, bare, "laid", -1);
        c.due(0, bare, "laid", 0);
        c.due(0, bare, "laid", 1);
        // one place: rows that do not fall; ten places: all rows
        StoneRiver one = flowingUp();
        StoneRiver ten = flowingUp();
        int rows = 1;
        for (int i = 1; i <= 10; i++) {
            one.scratch(9, 0);
            ten.scratch(8 + i, 0);
            rows *= 3;
            c.due((i + 1) * (i + 2) / 2, one, "laid", -1);
            c.due(rows, ten, "laid", -1);
        }
        for (int i = 0; i < 10; i++) {
            c.due(0, one, "laid", i);
            c.due(0, ten, "laid", i);
        }
        StoneRiver x = upThenDown();
        x.scratch(9, 4);
        x.scratch(9, 6);
        x.scratch(10, 0);
        x.scratch(10, 6);
        c.due(0, x, "laid", -1);
        x.put(0, 4);
        // 4 is of both stages, 0 and 6 are of one alone
        c.due(2, x, "laid", -1);
        c.due(0, x, "laid", 0);
        c.due(1, x, "laid", 1);
        c.due(0, x, "laid", 2);
        c.due(1, x, "laid", 3);
        x.scratch(9, 4);
        c.due(2, x, "laid", -1);
        c.due(1, x, "laid", 4);
        x.scratch(10, 4);
        c.due(1, x, "laid", 5);
        x.scratch(9, 0);
        c.due(0, x, "laid", -1);
        c.due(-1, x, "laid", 2);
        // the last stage alone, and as late as the older one there
        StoneRiver y = upThenDown();
        y.surface(2, 9, 1);
        y.surface(2, 18, 1);
        y.scratch(18, 0);
        y.scratch(9, 6);
        y.scratch(9, 0);
        c.due(2, y, "laid", -1);
        c.due(0, y, "laid", 0);
        c.due(1, y, "laid", 1);
        c.due(2, y, "laid", 2);
        y.scratch(9, 0);
        c.due(2, y, "laid", 3);
        c.due(2, y, "laid", -1);
    }

    private static StoneRiver flowingUp() {
        StoneRiver x = new StoneRiver();
        for (int i = 0; i < 24; i++) {
            x.slope(i / 8, i % 8, 10 + i % 8, 0);
        }
        return x;
    }

    private static void newObject(Edges e) {
        e.of("Promise 1", "As told; nothing was found.", c -> {
            StoneRiver x = new StoneRiver();
            for (int what = 0; what <= 6; what++) {
                c.due(0, x, "count", what);
            }
            int[] numbers = {1, 3, 50, 2, 10, 30};
            for (int what = 0; what < 6; what++) {
                c.due(numbers[what], x, "put", what, numbers[what]);
            }
            for (int i = 0; i < 20; i++) {
                c.due(0, x, "area", i, 0);
                c.due(0, x, "zone", i, 0);
            }
            c.due(0, x, "zone", 20, 0);
            c.due(-3, x, "from", 0);
            c.due(-3, x, "from", 1);
            // one object's finds are not another one's
            StoneRiver y = Worlds.full();
            y.image(0);
            c.due(new StoneRiver().digest(), x, "digest");
            c.due(-3, new StoneRiver(), "from", 0);
        });
    }

    private static void surfaceAndSlope(Edges e) {
        e.of("Promise 2", "SURFACE of a PLACE in a STAGE: what it was.", c -> {
            StoneRiver x = new StoneRiver();
            c.due(0, x, "surface", 2, 63, 99);
            c.due(99, x, "surface", 2, 63, 99);
            c.due(99, x, "surface", 2, 63, 0);
            c.due(0, x, "surface", 2, 63, 1);
            c.due(0, x, "surface", 0, 0, 7);
            c.due(1, x, "surface", 2, 63, 1);
            c.due(7, x, "surface", 0, 0, 7);
        });
        e.of("Promise 2", "BAD.", c -> {
            Edges.refused(c, -2, Worlds::some, "surface", -1, 64, 100);
            Edges.refused(c, -2, Worlds::some, "surface", 3, 0, 0);
            Edges.refused(c, -2, Worlds::some, "surface", 0, 64, 0);
            Edges.refused(c, -2, Worlds::some, "surface", 0, 0, 100);
        });
        e.of("Promise 3", "SURFACES of a row of the VALLEY: from v on, each next one less by step (0 at least, 99 at "
                + "most): 1.", ValleyEdges::slopes);
        e.of("Promise 3", "BAD (v 0 .. 99, step -50 .. 50).", c -> {
            Edges.range(c, -2, "slope", args(1, 2, 33, 4), 2, 0, 99);
            Edges.range(c, -2, "slope", args(1, 2, 33, 4), 3, -50, 50);
        });
    }

    private static void slopes(Check c) {
        sloped(c, 50, 10, 50, 40, 30, 20, 10, 0, 0, 0);
        sloped(c, 99, 50, 99, 49, 0, 0, 0, 0, 0, 0);
        sloped(c, 0, 50, 0, 0, 0, 0, 0, 0, 0, 0);
        sloped(c, 0, -50, 0, 50, 99, 99, 99, 99, 99, 99);
        sloped(c, 99, -1, 99, 99, 99, 99, 99, 99, 99, 99);
        sloped(c, 92, -1, 92, 93, 94, 95, 96, 97, 98, 99);
        sloped(c, 7, 1, 7, 6, 5, 4, 3, 2, 1, 0);
        sloped(c, 6, 1, 6, 5, 4, 3, 2, 1, 0, 0);
        sloped(c, 42, 0, 42, 42, 42, 42, 42, 42, 42, 42);
    }

    private static void sloped(Check c, int v, int step, int... row) {
        StoneRiver x = new StoneRiver();
        Worlds.flat(x, 1, 55);
        c.due(1, x, "slope", 1, 3, v, step);
        for (int column = 0; column < 8; column++) {
            c.due(row[column], x, "surface", 1, 24 + column, 0);
        }
        c.due(55, x, "surface", 1, 23, 0);
        c.due(55, x, "surface", 1, 32, 0);
    }

    private static void flowCalls(Edges e) {
        e.of("Promise 4", "FLOW: the direction.", c -> {
            StoneRiver x = new StoneRiver();
            x.slope(1, 7, 20, 2);
            c.due(0, x, "flow", 1, 56);
            c.due(0, x, "flow", 1, 63);
            x.slope(1, 6, 30, 0);
            c.due(2, x, "flow", 1, 56);
            c.due(2, x, "flow", 1, 62);
            c.due(0, x, "flow", 1, 55);
            c.due(0, x, "flow", 1, 48);
        });
        e.of("Promise 4", "NONE.", c -> {
            c.due(-1, new StoneRiver(), "flow", 2, 63);
            StoneRiver x = new StoneRiver();
            Worlds.flat(x, 2, 1);
            c.due(-1, x, "flow", 2, 63);
            c.due(-1, x, "flow", 2, 0);
        });
        e.of("Promise 4", "BAD.", c -> {
            Edges.refused(c, -2, Worlds::some, "flow", 3, 64);
            Edges.refused(c, -2, Worlds::some, "flow", -1, 0);
            Edges.refused(c, -2, Worlds::some, "flow", 0, -1);
        });
    }

    private static void stoneCalls(Edges e) {
        e.of("Promise 5", "A CLIFF: its number.", c -> {
            StoneRiver x = new StoneRiver();
            c.due(0, x, "cliff", 5, 5);
            c.due(1, x, "cliff", 5, 5);
            c.due(2, x, "count", 0);
        });
        e.of("Promise 5", "BAD;", c -> {
            Edges.refused(c, -2, Worlds::some, "cliff", 64, 0);
            Edges.refused(c, -2, Worlds::some, "cliff", 0, 6);
            Edges.refused(c, -2, Worlds::full, "cliff", 0, -1);
        });
        e.of("Promise 5", "FULL: 8.", c -> full(c, "cliff", 8, 0));
        e.of("Promise 6", "A BOULDER: its number.", c -> {
            StoneRiver x = new StoneRiver();
            c.due(0, x, "boulder", 5, 5);
            c.due(1, x, "boulder", 5, 5);
            c.due(2, x, "count", 1);
        });
        e.of("Promise 6", "BAD;", c -> {
            Edges.refused(c, -2, Worlds::some, "boulder", -1, 0);
            Edges.refused(c, -2, Worlds::some, "boulder", 0, -1);
            Edges.refused(c, -2, Worlds::full, "boulder", 64, 0);
        });
        e.of("Promise 6", "FULL: 10.", c -> full(c, "boulder", 10, 1));
        e.of("Promise 11", "A SCRATCH: its number.", c -> {
            StoneRiver x = new StoneRiver();
            c.due(0, x, "scratch", 5, 15);
            c.due(1, x, "scratch", 5, 15);
            c.due(2, x, "count", 2);
        });
        e.of("Promise 11", "BAD;", c -> {
            Edges.refused(c, -2, Worlds::some, "scratch", 64, 0);
            Edges.refused(c, -2, Worlds::some, "scratch", 0, 16);
            Edges.refused(c, -2, Worlds::full, "scratch", 0, -1);
        });
        e.of("Promise 11", "FULL: 10.", c -> full(c, "scratch", 10, 2));
    }

    /** The last one that may be is taken, the next one refused. */
    private static void full(Check c, String name, int most, int what) {
        StoneRiver x = new StoneRiver();
        for (int i = 0; i < most; i++) {
            c.due(i, x, name, 1, 1);
        }
        c.due(-4, x, name, 1, 1);
        c.due(most, x, "count", what);
        Edges.refused(c, -4, Worlds::full, name, 1, 1);
    }

    private static void boulderCalls(Edges e) {
        Supplier<StoneRiver> oneOfEach = () -> twoSteps(0, 1);
        e.of("Promise 7", "FITS.", c -> {
            c.due(1, twoSteps(0, 1), "fits", 0);
            c.due(0, twoSteps(1, 0), "fits", 0);
        });
        e.of("Promise 7", "BAD.", c -> {
            Edges.range(c, -2, oneOfEach, "fits", args(0), 0, 0, 0);
            Edges.range(c, -2, Worlds::full, "fits", args(0), 0, 0, 9);
            Edges.refused(c, -2, StoneRiver::new, "fits", 0);
        });
        e.of("Promise 8", "STEPS of a BOULDER from a CLIFF.", c -> {
            StoneRiver x = twoSteps(0, 1);
            x.cliff(9, 0);
            x.boulder(9, 0);
            c.due(2, x, "steps", 0, 0);
            c.due(1, x, "steps", 0, 1);
            c.due(1, x, "steps", 1, 0);
            c.due(0, x, "steps", 1, 1);
        });
        e.of("Promise 8", "NONE: it can not have been (SORTS not looked at).", c -> {
            c.due(-1, twoSteps(2, 1), "steps", 0, 0);
            StoneRiver x = twoSteps(0, 1);
            x.cliff(17, 5);
            c.due(2, x, "steps", 0, 1);
            x.cliff(2, 5);
            c.due(-1, x, "steps", 0, 2);
        });
        e.of("Promise 8", "BAD.", c -> {
            Edges.range(c, -2, oneOfEach, "steps", args(0, 0), 0, 0, 0);
            Edges.range(c, -2, oneOfEach, "steps", args(0, 0), 1, 0, 0);
            Edges.range(c, -2, Worlds::full, "steps", args(0, 0), 0, 0, 9);
            Edges.range(c, -2, Worlds::full, "steps", args(0, 0), 1, 0, 7);
        });
        e.of("Promise 9", "FROM: the CLIFF.", c -> {
            StoneRiver x = twoSteps(0, 1);
            c.due(0, x, "home", 0);
            x.cliff(1, 0);
            c.due(1, x, "home", 0);
        });
        e.of("Promise 9", "NONE.", c -> {
            c.due(-1, twoSteps(2, 0), "home", 0);
            StoneRiver x = new StoneRiver();
            x.boulder(9, 1);
            c.due(-1, x, "home", 0);
            x.cliff(9, 2);
            c.due(-1, x, "home", 0);
            x.cliff(9, 1);
            c.due(1, x, "home", 0);
        });
        e.of("Promise 9", "BAD.", c -> {
            Edges.range(c, -2, oneOfEach, "home", args(0), 0, 0, 0);
            Edges.range(c, -2, Worlds::full, "home", args(0), 0, 0, 9);
        });
        e.of("Promise 10", "ABOVE.", c -> {
            c.due(3, twoSteps(0, 2), "upstream", 1);
            c.due(2, twoSteps(0, 2), "upstream", 9);
            c.due(1, twoSteps(0, 2), "upstream", 17);
        });
        e.of("Promise 10", "BAD.", c -> {
            Edges.refused(c, -2, Worlds::some, "upstream", -1);
            Edges.refused(c, -2, Worlds::some, "upstream", 64);
        });
    }

    private static void scratchCalls(Edges e) {
        e.of("Promise 12", "TURN (0), STRIDE (1), RUNS (2), MELT (3), SLOW (4), FAST (5): what it was.", c -> {
            int[] first = {1, 3, 50, 2, 10, 30};
            StoneRiver x = new StoneRiver();
            for (int what = 0; what < 6; what++) {
                c.due(first[what], x, "put", what, 3 + what);
                if (what == 4) {
                    c.due(7, x, "put", 4, 5);
                }
            }
            c.due(3, x, "put", 0, 1);
            c.due(4, x, "put", 1, 1);
            c.due(5, x, "put", 2, 1);
            c.due(6, x, "put", 3, 1);
            c.due(5, x, "put", 4, 1);
            c.due(8, x, "put", 5, 1);
            Supplier<StoneRiver> slower = () -> {
                StoneRiver y = new StoneRiver();
                y.put(4, 5);
                return y;
            };
            Edges.range(c, -2, slower, "put", args(0, 5), 0, 0, 5);
        });
        e.of("Promise 12", "BAD: SLOW above FAST, too.", c -> {
            Edges.range(c, -2, StoneRiver::new, "put", args(4, 1), 1, 1, 30);
            Edges.range(c, -2, StoneRiver::new, "put", args(5, 99), 1, 10, 99);
            Edges.refused(c, -2, Worlds::some, "put", 4, 32);
            Edges.refused(c, -2, Worlds::some, "put", 5, 7);
            StoneRiver x = new StoneRiver();
            c.due(10, x, "put", 4, 30);
            c.due(30, x, "put", 5, 30);
            c.due(-2, x, "put", 4, 31);
            c.due(-2, x, "put", 5, 29);
        });
        e.of("Promise 13", "MAY of a SCRATCH, as bits.", c -> {
            StoneRiver x = flowingUp();
            x.scratch(9, 15);
            x.scratch(9, 2);
            c.due(7, x, "may", 0);
            c.due(0, x, "may", 1);
            x.surface(0, 9, 0);
            c.due(6, x, "may", 0);
        });
        e.of("Promise 13", "BAD.", c -> {
            Edges.refused(c, -2, StoneRiver::new, "may", 0);
            Edges.range(c, -2, Worlds::some, "may", args(0), 0, 0, 1);
            Edges.range(c, -2, Worlds::full, "may", args(0), 0, 0, 9);
        });
    }

    private static void laidCalls(Edges e) {
        e.of("Promise 14", "LAID: how many rows (what = NONE), the STAGE of SCRATCH what in the first", c -> {
            StoneRiver x = upThenDown();
            x.scratch(9, 6);
            x.scratch(10, 0);
            c.due(1, x, "laid", -1);
            c.due(1, x, "laid", 0);
            c.due(0, x, "laid", 1);
        });
        e.of("Promise 14", "(NONE: there is none).", c -> {
            StoneRiver x = upThenDown();
            x.scratch(10, 0);
            x.scratch(9, 4);
            c.due(0, x, "laid", -1);
            c.due(-1, x, "laid", 0);
            c.due(-1, x, "laid", 1);
        });
        e.of("Promise 14", "BAD: -10.", c -> {
            Edges.refused(c, -10, StoneRiver::new, "laid", 0);
            Edges.range(c, -10, Worlds::some, "laid", args(0), 0, -1, 1);
            Edges.range(c, -10, Worlds::full, "laid", args(0), 0, -1, 9);
        });
    }
}
