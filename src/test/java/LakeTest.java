import java.util.Random;

/** Promises 24 to 26: the lake that broke through. */
public final class LakeTest {
    private static final Check C = new Check();

    public static void main(String[] args) {
        area();
        lakeRefused();
        lake();
        manyHours();
        shore();
        Random random = new Random(13);
        for (int run = 0; run < 300; run++) {
            drop(random);
        }
        C.end();
    }

    private static void area() {
        StoneRiver x = new StoneRiver();
        C.due(0, x, "area", 0, 999);
        C.due(999, x, "area", 0, 0);
        C.due(0, x, "area", 0, 4);
        C.due(0, x, "area", 19, 7);
        C.due(7, x, "area", 19, 8);
        C.due(4, x, "area", 0, 4);
        C.ranges(-2, x, "area", new long[] {3, 3}, 0, 19, 0, 999);
    }

    private static void lakeRefused() {
        StoneRiver x = new StoneRiver();
        x.area(0, 5);
        C.ranges(-2, x, "lake", new long[] {20, 0, 0}, 1, 20, 0, 19, 0, 2);
        C.refused(-2, x, "lake", 0, 0, 0);
        C.refused(-2, x, "lake", 7, 7, 0);
        C.refused(-2, x, "lake", 7, 8, 1);
        C.refused(-2, x, "lake", 0, -1, 0);
        C.due(5, x, "lake", 1, 0, 0);
    }

    private static void three(StoneRiver x, int h, int g, int volume, int hours, int greatest) {
        C.due(volume, x, "lake", h, g, 0);
        C.due(hours, x, "lake", h, g, 1);
        C.due(greatest, x, "lake", h, g, 2);
        C.due(volume, x, "lake", h, g, 0);
    }

    private static void lake() {
        StoneRiver x = new StoneRiver();
        three(x, 20, 0, 0, 0, 0);
        x.area(2, 40);
        x.area(3, 100);
        x.area(5, 170);
        x.area(6, 999);
        // from the sill 2: 50 times 4; then 70 of level 3 are left: 50 times 2; then 10 of level 2
        three(x, 6, 2, 310, 3, 200);
        // empty levels ahead of those with something do not count, those below them do
        three(x, 5, 2, 140, 2, 100);
        three(x, 5, 0, 140, 1, 140);
        three(x, 5, 3, 100, 2, 50);
        three(x, 6, 4, 170, 2, 100);
        three(x, 5, 4, 0, 0, 0);
        three(x, 2, 0, 0, 0, 0);
        three(x, 4, 3, 100, 2, 50);
        x.put(2, 99);
        three(x, 4, 3, 100, 2, 99);
        x.put(2, 100);
        three(x, 4, 3, 100, 1, 100);
        x.put(2, 999);
        three(x, 20, 0, 1309, 1, 1309);
        x.area(19, 999);
        three(x, 20, 0, 2308, 1, 2308);
        x.put(2, 1);
        three(x, 20, 19, 999, 999, 1);
    }

    /** The hours are counted to 1000 at most. */
    private static void manyHours() {
        StoneRiver x = new StoneRiver();
        x.put(2, 1);
        x.area(0, 999);
        three(x, 1, 0, 999, 999, 1);
        x.area(1, 1);
        three(x, 2, 0, 1000, 999, 2);
        x.area(1, 2);
        three(x, 2, 0, 1001, 1000, 2);
        x.area(1, 3);
        three(x, 2, 0, 1002, 1000, 2);
        x.area(1, 999);
        three(x, 2, 0, 1998, 1000, 2);
        for (int level = 0; level < 20; level++) {
            x.area(level, 999);
        }
        three(x, 20, 0, 19980, 1000, 20);
    }

    private static void shore() {
        StoneRiver x = new StoneRiver();
        for (int level = 0; level < 20; level++) {
            x.area(level, 1 + level);
        }
        C.ranges(-2, x, "shore", new long[] {20, 0, 0, 0}, 1, 20, 0, 19, 0, 20, 0, 1);
        C.refused(-2, x, "shore", 0, 0, 5, 0);
        C.refused(-2, x, "shore", 7, 7, 5, 1);
        C.refused(-2, x, "shore", 7, 8, 5, 1);
        ends(x, 5, 2, 0, 3 + 4 + 5, 3 + 4 + 5);
        ends(x, 5, 2, 1, 3 + 4, 3 + 4 + 5 + 6);
        ends(x, 5, 2, 2, 3, 3 + 4 + 5 + 6 + 7);
        ends(x, 5, 2, 3, 3, 3 + 4 + 5 + 6 + 7 + 8);
        ends(x, 5, 2, 20, 3, 210 - 3);
        ends(x, 20, 0, 20, 1, 210);
        ends(x, 20, 18, 1, 19, 19 + 20);
        ends(x, 19, 18, 1, 19, 19 + 20);
        ends(x, 19, 18, 2, 19, 19 + 20);
        ends(x, 20, 19, 5, 20, 20);
        ends(x, 1, 0, 0, 1, 1);
        x.area(1, 0);
        ends(x, 2, 0, 1, 1, 4);
    }

    private static void ends(StoneRiver x, int h, int g, int e, int least, int greatest) {
        C.due(least, x, "shore", h, g, e, 0);
        C.due(greatest, x, "shore", h, g, e, 1);
    }

    /** Every unit of water runs out by itself. */
    private static void drop(Random random) {
        StoneRiver x = new StoneRiver();
        int[] left = new int[20];
        for (int level = 0; level < 20; level++) {
            left[level] = random.nextInt(3) == 0 ? 0 : random.nextInt(random.nextBoolean() ? 20 : 200);
            x.area(level, left[level]);
        }
        int runs = 1 + random.nextInt(60);
        x.put(2, runs);
        int h = 1 + random.nextInt(20);
        int g = random.nextInt(h);
        int all = 0;
        for (int level = g; level < h; level++) {
            all += left[level];
        }
        int gone = 0;
        int hours = 0;
        int greatest = 0;
        for (; gone < all && hours < 1000; hours++) {
            int top = h - 1;
            while (left[top] == 0) {
                top--;
            }
            int out = 0;
            for (int drop = 0; drop < runs * (top - g + 1) && gone < all; drop++, gone++, out++) {
                int level = h - 1;
                while (left[level] == 0) {
                    level--;
                }
                left[level]--;
            }
            greatest = Math.max(greatest, out);
        }
        three(x, h, g, all, hours, greatest);
    }
}
