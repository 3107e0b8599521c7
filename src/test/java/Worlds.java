/** Objects in which something was found, and all that an object tells. */
final class Worlds {
    static final int CUTS = 0, WOOD = 1, LICHEN = 2, FIND = 3, MAP = 4;
    static final int AT = 0, FREE = 1, ICE = 2;

    private Worlds() {
    }

    static StoneRiver ridges(int many) {
        StoneRiver x = new StoneRiver();
        for (int i = 0; i < many; i++) {
            x.ridge();
        }
        return x;
    }

    /** A valley with one height in a stage. */
    static void flat(StoneRiver x, int stage, int v) {
        for (int row = 0; row < 8; row++) {
            x.slope(stage, row, v, 0);
        }
    }

    /** Ice so high that each place of the way flows to the next one and all others to the way. */
    static void way(StoneRiver x, int stage, int... places) {
        flat(x, stage, 99);
        for (int i = 0; i < places.length; i++) {
            x.surface(stage, places[i], 90 - i);
        }
    }

    /** Some of everything, nothing full; both images kept, each of another time. */
    static StoneRiver some() {
        StoneRiver x = ridges(3);
        for (int row = 0; row < 8; row++) {
            x.slope(0, row, 90 - 10 * row, 1);
            x.slope(2, row, 20 + row, -4);
        }
        x.cliff(0, 1);
        x.cliff(20, 2);
        x.boulder(27, 1);
        x.boulder(63, 2);
        x.image(0);
        x.scratch(10, 7);
        x.scratch(10, 8);
        x.fact(0, CUTS, 0, 1, 0);
        x.fact(1, WOOD, 1, 100, 300);
        x.fact(0, LICHEN, 2, 9, 0);
        x.sign(AT, 7, 5, 9);
        x.image(1);
        x.sign(FREE, 12, 0, 39);
        x.area(0, 70);
        x.area(4, 300);
        x.area(19, 9);
        x.zone(0, 40);
        x.zone(1, 20);
        x.put(0, 2);
        x.put(1, 4);
        x.put(2, 60);
        x.put(3, 1);
        x.put(4, 8);
        x.put(5, 31);
        type(x, "cliff 9 1; ridge;");
        return x;
    }

    /** As many of everything as there may be. */
    static StoneRiver full() {
        StoneRiver x = some();
        x.clear();
        for (int i = 0; i < 16; i++) {
            x.cliff(i, i % 6);
            x.boulder(63 - i, i % 6);
            x.scratch(i % 12, i);
            x.ridge();
            x.fact(i % 2, i % 2 == 0 ? FIND : MAP, i % 8, 500, 0);
            x.sign(i < 9 ? AT : ICE, i % 9, i % 9, 30);
        }
        for (int i = 0; i < 40; i++) {
            type(x, i == 20 ? " ridge" : "ridge;");
        }
        return x;
    }

    /** Types a text of any length by eight bytes at once. */
    static void type(StoneRiver x, String text) {
        for (int from = 0; from < text.length(); from += 8) {
            int n = Math.min(8, text.length() - from);
            long v = 0;
            for (int i = 0; i < n; i++) {
                v = v << 8 | text.charAt(from + i);
            }
            x.type(v, n);
        }
    }

    static StoneRiver typed(String text) {
        StoneRiver x = new StoneRiver();
        type(x, text);
        return x;
    }

    static String blanks(int many) {
        return " ".repeat(many);
    }

    /** What is told by all calls that ask, then of the text and of the images; the object is spent by it. */
    static long[] tell(StoneRiver x) {
        long[] told = new long[200];
        int n = tellAsked(x, told, 0);
        told[n++] = x.fault();
        told[n++] = x.read();
        told[n++] = x.digest();
        told[n++] = x.clear();
        for (int i = 0; i < 2; i++) {
            told[n++] = x.from(i);
            told[n++] = x.digest();
            told[n++] = x.fewest();
            told[n++] = x.stand(-1);
            told[n++] = x.fits(0);
        }
        return told;
    }

    private static int tellAsked(StoneRiver x, long[] told, int from) {
        int n = from;
        told[n++] = x.digest();
        for (int i = 0; i < 10; i++) {
            told[n++] = x.fits(i);
            told[n++] = x.home(i);
            told[n++] = x.steps(i, i % 8);
            told[n++] = x.may(i);
            told[n++] = x.laid(i - 1);
            told[n++] = x.flow(i % 3, 6 * i);
            told[n++] = x.upstream(6 * i);
            told[n++] = x.age(i % 8, 0, 1);
            told[n++] = x.stand(4 * i - 1);
            told[n++] = x.count(i % 7);
            told[n++] = x.lake(2 * i + 1, i / 2, i % 3);
            told[n++] = x.ice(5 * i, i);
        }
        told[n++] = x.fewest();
        told[n++] = x.core();
        told[n++] = x.parted();
        told[n++] = x.sure(0, 1);
        return n;
    }
}
