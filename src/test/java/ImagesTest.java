/** Promises 34 to 37: images, what there is, the digest. */
public final class ImagesTest {
    private static final Check C = new Check();

    public static void main(String[] args) {
        images();
        listsKept();
        eachPartKept();
        count();
        digest();
        constants();
        C.end();
    }

    private static void images() {
        StoneRiver x = new StoneRiver();
        C.ranges(-2, x, "image", new long[] {0}, 0, 1);
        C.ranges(-2, x, "from", new long[] {0}, 0, 1);
        C.refused(-3, x, "from", 0);
        C.refused(-3, x, "from", 1);
        C.due(1, x, "image", 1);
        C.refused(-3, x, "from", 0);
        x.ridge();
        C.due(1, x, "from", 1);
        C.due(0, x, "count", 3);
        x.ridge();
        x.ridge();
        C.due(1, x, "image", 0);
        C.due(1, x, "from", 1);
        C.due(0, x, "count", 3);
        C.due(1, x, "from", 0);
        C.due(2, x, "count", 3);
        x.ridge();
        C.due(1, x, "from", 0);
        C.due(2, x, "count", 3);
        x.ridge();
        C.due(1, x, "image", 0);
        C.due(1, x, "from", 1);
        C.due(1, x, "from", 0);
        C.due(3, x, "count", 3);
        // the text is not kept, and stays
        Check.type(x, "ridge;");
        C.due(1, x, "image", 1);
        Check.type(x, "ridge;");
        C.due(1, x, "from", 0);
        C.due(12, x, "count", 6);
        C.due(2, x, "read");
        C.due(1, x, "from", 1);
        C.due(0, x, "count", 6);
        C.due(3, x, "count", 3);
    }

    /** What came after the image in a place of a list does not stay there. */
    private static void listsKept() {
        StoneRiver x = full();
        x.image(0);
        long full = x.digest();
        Check.type(x, "cliff 1 1;boulder 1 1;scratch 1 1;ridge;find 0 0 1;ice 1 1 1;");
        C.due(6, x, "read");
        C.due(1, x, "from", 0);
        C.due(full, x, "digest");
        StoneRiver y = new StoneRiver();
        y.ridge();
        y.image(0);
        y.cliff(1, 2);
        y.boulder(1, 2);
        y.scratch(1, 2);
        y.fact(0, 3, 0, 4, 0);
        y.sign(0, 1, 2, 3);
        y.image(1);
        long first = y.digest();
        y.from(0);
        y.cliff(5, 1);
        y.boulder(5, 1);
        y.scratch(5, 1);
        y.fact(1, 4, 0, 5, 0);
        y.sign(2, 5, 6, 7);
        C.due(1, y, "from", 1);
        C.due(first, y, "digest");
        C.due(1, y, "stand", 3);
        C.due(4, y, "age", 0, 1, 1);
    }

    private static StoneRiver full() {
        StoneRiver x = new StoneRiver();
        x.surface(0, 0, 11);
        x.surface(1, 9, 12);
        x.surface(2, 63, 13);
        x.cliff(3, 4);
        x.cliff(62, 5);
        x.boulder(5, 1);
        x.scratch(6, 15);
        x.ridge();
        x.ridge();
        x.put(0, 7);
        x.put(1, 6);
        x.put(2, 5);
        x.put(3, 4);
        x.put(4, 3);
        x.put(5, 20);
        x.fact(1, 0, 0, 1, 77);
        x.fact(0, 1, 1, 20, 30);
        x.fact(1, 2, 1, 20, 30);
        x.fact(0, 3, 0, 40, 30);
        x.fact(0, 4, 0, 50, 30);
        x.sign(0, 20, 30, 31);
        x.sign(2, 1, 2, 3);
        x.area(0, 600);
        x.area(19, 700);
        x.zone(0, 8);
        x.zone(20, 9);
        return x;
    }

    /** Each part changed by itself comes back from the image. */
    private static void eachPartKept() {
        for (int part = 0; part < 21; part++) {
            StoneRiver x = full();
            x.image(part % 2);
            long kept = x.digest();
            change(x, part);
            C.same("changed part " + part, 1, x.digest() == kept ? 0 : 1);
            C.due(1, x, "from", part % 2);
            C.due(kept, x, "digest");
            long age = x.age(0, 4, 1);
            long travel = x.stand(-1);
            change(x, part);
            long changed = x.digest();
            x.image(1 - part % 2);
            x.from(part % 2);
            C.due(kept, x, "digest");
            C.due(age, x, "age", 0, 4, 1);
            C.due(travel, x, "stand", -1);
            x.from(1 - part % 2);
            C.due(changed, x, "digest");
        }
    }

    private static void change(StoneRiver x, int part) {
        switch (part) {
            case 0: x.surface(0, 0, 1); break;
            case 1: x.surface(1, 30, 1); break;
            case 2: x.surface(2, 63, 1); break;
            case 3: x.cliff(1, 1); break;
            case 4: x.boulder(1, 1); break;
            case 5: x.scratch(1, 1); break;
            case 6: x.ridge(); break;
            case 7: x.fact(0, 3, 0, 1, 0); break;
            case 8: x.sign(0, 0, 1, 1); break;
            case 9: case 10: case 11: case 12: case 13: x.put(part - 9, 1); break;
            case 14: x.put(5, 99); break;
            case 15: x.area(0, 1); break;
            case 16: x.area(7, 1); break;
            case 17: x.area(19, 1); break;
            case 18: x.zone(0, 1); break;
            case 19: x.zone(9, 1); break;
            default: x.zone(20, 1); break;
        }
    }

    private static void count() {
        StoneRiver x = full();
        Check.type(x, "four");
        int[] due = {2, 1, 1, 2, 5, 2, 4};
        for (int what = 0; what <= 6; what++) {
            C.due(due[what], x, "count", what);
        }
        C.ranges(-2, x, "count", new long[] {0}, 0, 6);
    }

    private static void digest() {
        C.due(Digest.of(new int[7], new int[192], 1, 3, 50, 2, 10, 30, new int[41]), new StoneRiver(), "digest");
        StoneRiver x = full();
        Check.type(x, "four");
        int[] surfaces = new int[192];
        surfaces[0] = 11;
        surfaces[64 + 9] = 12;
        surfaces[191] = 13;
        int[] facts = {1, 0, 0, 1, 0, 0, 1, 1, 20, 30, 1, 2, 1, 20, 0, 0, 3, 0, 40, 0, 0, 4, 0, 50, 0};
        int[] areas = new int[20];
        areas[0] = 600;
        areas[19] = 700;
        int[] heights = new int[21];
        heights[0] = 8;
        heights[20] = 9;
        long due = Digest.of(2, 1, 1, 2, 5, 2, 4, surfaces, 3, 4, 62, 5, 5, 1, 6, 15, 7, 6, 5, 4, 3, 20, facts,
                0, 20, 30, 31, 2, 1, 2, 3, areas, heights);
        C.due(due, x, "digest");
        C.due(due, x, "digest");
    }

    private static void constants() {
        C.same("NONE", -1, StoneRiver.NONE);
        C.same("BAD", -2, StoneRiver.BAD);
        C.same("NO", -3, StoneRiver.NO);
        C.same("FULL", -4, StoneRiver.FULL);
        C.same("QUARREL", -5, StoneRiver.QUARREL);
    }

    private static final class Digest {
        static long of(Object... parts) {
            long h = 521;
            for (Object part : parts) {
                int[] row = part instanceof int[] ? (int[]) part : new int[] {(Integer) part};
                for (int v : row) {
                    h = 31 * h + v;
                }
            }
            return h;
        }
    }
}
