/** Promises 1 to 14: a new object, the valley, stones, scratches, put. */
public final class ValleyTest {
    private static final Check C = new Check();

    public static void main(String[] args) {
        newObject();
        surface();
        slope();
        flow();
        cliffsAndBoulders();
        carried();
        home();
        upstream();
        scratch();
        put();
        may();
        laid();
        C.end();
    }

    /** Stage 0 flows down the rows (3, down and right), stage 1 to the left (5), stage 2 up the rows (0). */
    private static StoneRiver valley() {
        StoneRiver x = new StoneRiver();
        for (int row = 0; row < 8; row++) {
            x.slope(0, row, 90 - 10 * row, 0);
            x.slope(1, row, 10, -10);
            x.slope(2, row, 10 + 10 * row, 0);
        }
        return x;
    }

    /** As valley(), but without ice in the last stage. */
    private static StoneRiver twoStages() {
        StoneRiver x = valley();
        for (int row = 0; row < 8; row++) {
            x.slope(2, row, 0, 0);
        }
        return x;
    }

    private static void newObject() {
        StoneRiver x = new StoneRiver();
        for (int what = 0; what <= 6; what++) {
            C.due(0, x, "count", what);
        }
        int[] numbers = {1, 3, 50, 2, 10, 30};
        for (int what = 0; what < 6; what++) {
            C.due(numbers[what], x, "put", what, numbers[what]);
        }
        for (int stage = 0; stage < 3; stage++) {
            for (int place = 0; place < 64; place++) {
                C.due(0, x, "surface", stage, place, 0);
            }
        }
        for (int level = 0; level < 20; level++) {
            C.due(0, x, "area", level, 0);
        }
        for (int zone = 0; zone <= 20; zone++) {
            C.due(0, x, "zone", zone, 0);
        }
        C.due(-3, x, "from", 0);
        C.due(-3, x, "from", 1);
        C.due(-1, x, "fault");
        C.due(0, x, "clear");
        C.due(1, x, "laid", -1);
        C.due(0, x, "stand", -1);
        C.due(0, x, "fewest");
        C.due(-1, x, "core");
        C.due(-1, x, "parted");
        C.due(20, x, "ice", 0, 0);
    }

    private static void surface() {
        StoneRiver x = new StoneRiver();
        C.due(0, x, "surface", 0, 0, 99);
        C.due(99, x, "surface", 0, 0, 7);
        C.due(7, x, "surface", 0, 0, 0);
        C.due(0, x, "surface", 2, 63, 5);
        C.due(5, x, "surface", 2, 63, 6);
        C.due(0, x, "surface", 1, 63, 8);
        C.due(0, x, "surface", 2, 62, 0);
        C.due(6, x, "surface", 2, 63, 6);
        C.ranges(-2, x, "surface", new long[] {1, 63, 9}, 0, 2, 0, 63, 0, 99);
        C.due(8, x, "surface", 1, 63, 8);
    }

    private static void slope() {
        StoneRiver x = new StoneRiver();
        C.due(1, x, "slope", 1, 2, 30, 5);
        for (int column = 0; column < 8; column++) {
            C.due(Math.max(0, 30 - 5 * column), x, "surface", 1, 16 + column, 0);
        }
        C.due(1, x, "slope", 1, 7, 1, -50);
        int[] rising = {1, 51, 99, 99, 99, 99, 99, 99};
        for (int column = 0; column < 8; column++) {
            C.due(rising[column], x, "surface", 1, 56 + column, 0);
        }
        C.due(1, x, "slope", 2, 0, 99, 50);
        C.due(99, x, "surface", 2, 0, 99);
        C.due(49, x, "surface", 2, 1, 49);
        C.due(0, x, "surface", 2, 2, 0);
        C.due(0, x, "surface", 2, 8, 0);
        C.due(0, x, "surface", 1, 0, 0);
        C.ranges(-2, x, "slope", new long[] {2, 3, 50, 5}, 0, 2, 0, 7, 0, 99, -50, 50);
    }

    private static void flow() {
        StoneRiver x = valley();
        C.due(3, x, "flow", 0, 0);
        C.due(4, x, "flow", 0, 7);
        C.due(3, x, "flow", 0, 54);
        C.due(-1, x, "flow", 0, 56);
        C.due(5, x, "flow", 1, 1);
        C.due(6, x, "flow", 1, 63);
        C.due(-1, x, "flow", 1, 8);
        C.due(0, x, "flow", 2, 63);
        C.due(0, x, "flow", 2, 8);
        C.due(-1, x, "flow", 2, 7);
        C.ranges(-2, x, "flow", new long[] {0, 0}, 0, 2, 0, 63);
        eachDirection();
        lowestAndLeast();
    }

    /** One place lower than all others, seen from the eight places round it. */
    private static void eachDirection() {
        StoneRiver x = new StoneRiver();
        for (int row = 0; row < 8; row++) {
            x.slope(0, row, 60, 0);
        }
        x.surface(0, 27, 50);
        int[] around = {35, 34, 26, 18, 19, 20, 28, 36};
        for (int direction = 0; direction < 8; direction++) {
            C.due(direction, x, "flow", 0, around[direction]);
        }
        C.due(-1, x, "flow", 0, 27);
        C.due(-1, x, "flow", 0, 25);
        // the ends of neighbouring rows do not touch
        x.surface(0, 24, 1);
        C.due(-1, x, "flow", 0, 23);
        C.due(-1, x, "flow", 0, 31);
        C.due(0, x, "flow", 0, 32);
    }

    private static void lowestAndLeast() {
        StoneRiver x = new StoneRiver();
        for (int row = 0; row < 8; row++) {
            x.slope(0, row, 60, 0);
        }
        x.surface(0, 1, 40);
        x.surface(0, 8, 30);
        C.due(6, x, "flow", 0, 9);
        x.surface(0, 1, 30);
        C.due(0, x, "flow", 0, 9);
        x.surface(0, 2, 29);
        C.due(1, x, "flow", 0, 9);
        x.surface(0, 9, 29);
        C.due(-1, x, "flow", 0, 9);
        // to a place without ice, too; from none without ice
        x.surface(0, 18, 0);
        C.due(3, x, "flow", 0, 9);
        x.surface(0, 9, 0);
        C.due(-1, x, "flow", 0, 9);
        C.due(-1, x, "flow", 1, 9);
    }

    private static void cliffsAndBoulders() {
        StoneRiver x = new StoneRiver();
        C.ranges(-2, x, "cliff", new long[] {0, 0}, 0, 63, 0, 5);
        C.ranges(-2, x, "boulder", new long[] {0, 0}, 0, 63, 0, 5);
        for (int i = 0; i < 8; i++) {
            C.due(i, x, "cliff", i == 7 ? 63 : i, i % 6);
        }
        C.refused(-4, x, "cliff", 0, 0);
        C.refused(-2, x, "cliff", 64, 0);
        C.due(8, x, "count", 0);
        for (int i = 0; i < 10; i++) {
            C.due(i, x, "boulder", i == 9 ? 63 : i, i % 6);
        }
        C.refused(-4, x, "boulder", 0, 0);
        C.refused(-2, x, "boulder", 0, 6);
        C.due(10, x, "count", 1);
    }

    private static void carried() {
        StoneRiver x = twoStages();
        int[] cliffs = {0, 17, 18, 25, 20, 4, 2, 0};
        for (int i = 0; i < 8; i++) {
            x.cliff(cliffs[i], i == 7 ? 2 : 1);
        }
        C.refused(-2, x, "fits", 0);
        C.refused(-2, x, "steps", 0, 0);
        x.boulder(25, 1);
        // two down to 18, then one to the left
        C.due(3, x, "steps", 0, 0);
        C.due(-1, x, "steps", 0, 1);
        C.due(1, x, "steps", 0, 2);
        C.due(0, x, "steps", 0, 3);
        C.due(-1, x, "steps", 0, 4);
        C.due(3, x, "steps", 0, 5);
        C.due(3, x, "steps", 0, 6);
        C.due(3, x, "steps", 0, 7);
        C.due(1 + 4 + 8 + 32 + 64, x, "fits", 0);
        x.boulder(25, 2);
        C.due(128, x, "fits", 1);
        x.boulder(25, 5);
        C.due(0, x, "fits", 2);
        // four down to 36, three to 57, one along the last row; seven down to the corner would do, too
        x.boulder(56, 1);
        C.due(8, x, "steps", 3, 0);
        x.boulder(0, 1);
        C.due(0, x, "steps", 4, 0);
        C.due(-1, x, "steps", 4, 2);
        C.due(1, x, "fits", 4);
        C.ranges(-2, x, "fits", new long[] {0}, 0, 4);
        C.ranges(-2, x, "steps", new long[] {0, 0}, 0, 4, 0, 7);
        fewestOfAllStages();
    }

    /** The same way stands open in two stages, and a shorter one by both. */
    private static void fewestOfAllStages() {
        StoneRiver x = new StoneRiver();
        for (int row = 0; row < 8; row++) {
            x.slope(0, row, 90 - 10 * row, 0);
            x.slope(2, row, 90 - 10 * row, 0);
        }
        x.cliff(0, 0);
        x.cliff(7, 0);
        x.boulder(63, 0);
        C.due(7, x, "steps", 0, 0);
        C.due(7, x, "steps", 0, 1);
        x.surface(1, 7, 2);
        x.surface(1, 6, 1);
        // direction 2 is no lower than the bare places below
        C.due(3, x, "flow", 1, 6);
        C.due(3, x, "fits", 0);
        x.boulder(31, 0);
        C.due(3, x, "steps", 1, 1);
        C.due(-1, x, "steps", 1, 0);
    }

    private static void home() {
        StoneRiver x = twoStages();
        C.refused(-2, x, "home", 0);
        x.boulder(25, 1);
        C.due(-1, x, "home", 0);
        x.cliff(25, 0);
        C.due(-1, x, "home", 0);
        x.cliff(0, 1);
        C.due(1, x, "home", 0);
        x.cliff(2, 1);
        C.due(1, x, "home", 0);
        x.cliff(18, 1);
        C.due(3, x, "home", 0);
        x.cliff(18, 1);
        C.due(3, x, "home", 0);
        x.cliff(17, 1);
        C.due(3, x, "home", 0);
        x.cliff(25, 1);
        C.due(6, x, "home", 0);
        x.boulder(25, 0);
        C.due(0, x, "home", 1);
        x.boulder(0, 1);
        C.due(1, x, "home", 2);
        C.due(2 + 4 + 8 + 16 + 64, x, "fits", 0);
        C.due(2, x, "fits", 2);
        C.due(1, x, "fits", 1);
        C.ranges(-2, x, "home", new long[] {0}, 0, 2);
    }

    private static void upstream() {
        StoneRiver x = twoStages();
        C.due(8, x, "upstream", 25);
        C.due(1, x, "upstream", 0);
        C.due(1, new StoneRiver(), "upstream", 63);
        C.ranges(-2, x, "upstream", new long[] {0}, 0, 63);
        StoneRiver y = new StoneRiver();
        y.surface(2, 9, 5);
        C.due(2, y, "upstream", 1);
        C.due(1, y, "upstream", 9);
        // a step of stage 0 leads to 9, one of stage 2 on from it; not the other way round
        y.surface(0, 18, 9);
        for (int place : new int[] {10, 11, 19, 27, 26, 25, 17}) {
            y.surface(0, place, 9);
        }
        C.due(7, y, "flow", 0, 18);
        C.due(0, y, "flow", 0, 17);
        C.due(4, y, "upstream", 1);
    }

    private static void scratch() {
        StoneRiver x = new StoneRiver();
        C.ranges(-2, x, "scratch", new long[] {0, 0}, 0, 63, 0, 15);
        for (int i = 0; i < 10; i++) {
            C.due(i, x, "scratch", i == 0 ? 63 : 0, i == 1 ? 15 : i);
        }
        C.refused(-4, x, "scratch", 0, 0);
        C.refused(-2, x, "scratch", 0, 16);
        C.due(10, x, "count", 2);
    }

    private static void put() {
        StoneRiver x = new StoneRiver();
        int[] least = {0, 1, 1, 1, 1, 1};
        int[] most = {7, 20, 999, 9, 99, 99};
        int[] first = {1, 3, 50, 2, 10, 30};
        for (int what : new int[] {0, 1, 2, 3, 5, 4}) {
            C.due(first[what], x, "put", what, most[what]);
            C.due(most[what], x, "put", what, most[what]);
            C.ranges(-2, x, "put", new long[] {what, most[what]}, 0, 5, least[what], most[what]);
        }
        C.refused(-2, x, "put", 5, 98);
        for (int what = 0; what < 6; what++) {
            C.due(most[what], x, "put", what, least[what]);
            C.due(least[what], x, "put", what, least[what]);
        }
        C.refused(-2, x, "put", 4, 2);
        C.due(1, x, "put", 5, 2);
        C.due(1, x, "put", 4, 2);
        C.refused(-2, x, "put", 4, 3);
        C.refused(-2, x, "put", 5, 1);
    }

    private static void may() {
        StoneRiver x = valley();
        C.refused(-2, x, "may", 0);
        // at 18 the ice flows by 6, 10, 0
        int[] directions = {6, 7, 5, 4, 8, 10, 0, 15, 14, 1};
        for (int direction : directions) {
            x.scratch(18, direction);
        }
        int[] byOne = {1, 1, 1, 0, 0, 2, 4, 4, 0, 4};
        int[] byTwo = {1, 1, 1, 1, 3, 2, 4, 4, 4, 4};
        int[] bySeven = {7, 7, 7, 7, 3, 7, 7, 7, 6, 7};
        for (int i = 0; i < 10; i++) {
            C.due(byOne[i], x, "may", i);
        }
        x.put(0, 2);
        for (int i = 0; i < 10; i++) {
            C.due(byTwo[i], x, "may", i);
        }
        x.put(0, 7);
        for (int i = 0; i < 10; i++) {
            C.due(bySeven[i], x, "may", i);
        }
        x.put(0, 0);
        C.due(0, x, "may", 1);
        C.due(1, x, "may", 0);
        C.ranges(-2, x, "may", new long[] {0}, 0, 9);
        StoneRiver bare = new StoneRiver();
        bare.put(0, 7);
        bare.scratch(3, 3);
        C.due(0, bare, "may", 0);
    }

    private static void laid() {
        StoneRiver x = twoStages();
        x.put(0, 2);
        C.due(1, x, "laid", -1);
        C.refused(-10, x, "laid", 0);
        x.scratch(18, 8);
        C.due(2, x, "laid", -1);
        x.scratch(18, 8);
        C.due(3, x, "laid", -1);
        x.scratch(19, 8);
        C.due(6, x, "laid", -1);
        x.scratch(18, 6);
        C.due(2, x, "laid", -1);
        x.scratch(18, 10);
        C.due(2, x, "laid", -1);
        int[] first = {0, 0, 0, 0, 1};
        for (int i = 0; i < 5; i++) {
            C.due(first[i], x, "laid", i);
        }
        C.ranges(-10, x, "laid", new long[] {0}, -1, 4);
        x.scratch(18, 6);
        C.due(0, x, "laid", -1);
        for (int i = 0; i < 6; i++) {
            C.due(-1, x, "laid", i);
        }
        C.refused(-10, x, "laid", 6);
        laidLater();
    }

    /** An older scratch of a late stage makes the newer ones late, at its place alone. */
    private static void laidLater() {
        StoneRiver x = valley();
        x.put(0, 7);
        x.scratch(18, 10);
        x.put(0, 2);
        x.scratch(18, 8);
        x.scratch(20, 8);
        x.scratch(18, 0);
        C.due(2, x, "laid", -1);
        C.due(1, x, "laid", 0);
        C.due(1, x, "laid", 1);
        C.due(0, x, "laid", 2);
        C.due(2, x, "laid", 3);
        StoneRiver y = new StoneRiver();
        for (int stage = 0; stage < 3; stage++) {
            y.surface(stage, 9, 1);
        }
        for (int i = 1; i <= 10; i++) {
            y.scratch(9, 0);
            C.due((i + 1) * (i + 2) / 2, y, "laid", -1);
        }
        StoneRiver z = new StoneRiver();
        long rows = 1;
        for (int i = 0; i < 10; i++) {
            int place = 9 + i / 7 * 16 + i % 7;
            for (int stage = 0; stage < 3; stage++) {
                z.surface(stage, place, 1);
            }
            z.scratch(place, 0);
            rows *= 3;
            C.due(rows, z, "laid", -1);
        }
    }
}
