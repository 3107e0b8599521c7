import java.util.Random;

/** Promises 27 to 29: the zones' heights, and the warmth that makes the ice stand there. */
public final class WarmthTest {
    private static final Check C = new Check();

    public static void main(String[] args) {
        zone();
        ice();
        warm();
        Random random = new Random(17);
        for (int run = 0; run < 200; run++) {
            byTheWords(random);
        }
        C.end();
    }

    private static void zone() {
        StoneRiver x = new StoneRiver();
        C.due(0, x, "zone", 0, 60);
        C.due(60, x, "zone", 0, 3);
        C.due(0, x, "zone", 20, 4);
        C.due(4, x, "zone", 20, 0);
        C.due(3, x, "zone", 0, 3);
        C.ranges(-2, x, "zone", new long[] {3, 3}, 0, 20, 0, 60);
    }

    private static void ice() {
        StoneRiver x = new StoneRiver();
        C.due(20, x, "ice", 0, 0);
        C.due(-1, x, "ice", 1, 0);
        C.due(-1, x, "ice", 1, 1);
        C.due(20, x, "ice", 1, 2);
        C.due(20, x, "ice", 30, 60);
        C.due(-1, x, "ice", 31, 60);
        C.ranges(-10, x, "ice", new long[] {3, 3}, 0, 60, 0, 60);
        // 10 above, 4 at it, then 0: gains of 6, 6, 6 - 2 w and so on
        x.zone(0, 10);
        x.zone(1, 4);
        C.due(1, x, "ice", 10, 6);
        C.due(0, x, "ice", 10, 5);
        C.due(20, x, "ice", 3, 6);
        C.due(1, x, "ice", 9, 5);
        x.put(3, 1);
        C.due(2, x, "ice", 10, 6);
        x.put(3, 9);
        C.due(0, x, "ice", 10, 6);
        C.due(-1, x, "ice", 11, 6);
        C.due(-1, x, "ice", 60, 60);
        // melting first, gaining again below: the last zone counts, though those ahead have less than 0
        StoneRiver y = new StoneRiver();
        y.zone(1, 60);
        y.zone(2, 60);
        C.due(2, y, "ice", 4, 3);
        C.due(3, y, "ice", 3, 3);
        C.due(-1, y, "ice", 5, 3);
    }

    private static void warm() {
        StoneRiver x = new StoneRiver();
        C.due(0, x, "warm", 20, 0, 0);
        C.due(0, x, "warm", 20, 0, 1);
        C.due(-1, x, "warm", 19, 0, 0);
        C.due(-1, x, "warm", 19, 0, 1);
        C.due(0, x, "warm", 20, 60, 0);
        C.due(30, x, "warm", 20, 60, 1);
        C.ranges(-2, x, "warm", new long[] {3, 3, 0}, 0, 20, 0, 60, 0, 1);
        x.zone(0, 60);
        C.due(-1, x, "warm", 0, 60, 0);
        C.due(-1, x, "warm", 0, 60, 1);
        C.due(60, x, "warm", 1, 60, 1);
        C.due(46, x, "warm", 1, 60, 0);
        C.due(41, x, "warm", 0, 40, 0);
        C.due(60, x, "warm", 0, 40, 1);
        C.due(1, x, "warm", 0, 0, 0);
        C.due(0, x, "warm", 20, 0, 1);
        // all at 60 but the last at 38: 21 of snow in all are gone at 60 alone
        StoneRiver y = new StoneRiver();
        for (int zone = 0; zone < 20; zone++) {
            y.zone(zone, 60);
        }
        y.zone(20, 38);
        y.put(3, 1);
        C.due(60, y, "warm", 19, 1, 0);
        C.due(60, y, "warm", 19, 1, 1);
        C.due(59, y, "warm", 20, 1, 1);
        C.due(0, y, "warm", 20, 1, 0);
    }

    private static void byTheWords(Random random) {
        StoneRiver x = new StoneRiver();
        int[] heights = new int[21];
        int top = 1 + random.nextInt(60);
        for (int zone = 0; zone <= 20; zone++) {
            heights[zone] = random.nextInt(top + 1);
            x.zone(zone, heights[zone]);
        }
        int melt = 1 + random.nextInt(9);
        x.put(3, melt);
        int s = random.nextInt(61);
        int[] stands = new int[61];
        for (int w = 0; w <= 60; w++) {
            stands[w] = -1;
            for (int zone = 0; zone <= 20; zone++) {
                int together = 0;
                for (int z = 0; z <= zone; z++) {
                    together += s - (w > heights[z] ? melt * (w - heights[z]) : 0);
                }
                stands[w] = together >= 0 ? zone : stands[w];
            }
            if (w % 7 == 0) {
                C.due(stands[w], x, "ice", w, s);
            }
        }
        for (int zone = 0; zone <= 20; zone += 1 + random.nextInt(3)) {
            int least = -1;
            int greatest = -1;
            for (int w = 0; w <= 60; w++) {
                if (stands[w] == zone) {
                    least = least < 0 ? w : least;
                    greatest = w;
                }
            }
            C.due(least, x, "warm", zone, s, 0);
            C.due(greatest, x, "warm", zone, s, 1);
        }
    }
}
