import java.util.Random;

/** Promises 22 and 23: signs of where the front was, and the least way that bears them. */
public final class StandsTest {
    private static final Check C = new Check();
    private static final int AT = 0, FREE = 1, ICE = 2;

    public static void main(String[] args) {
        signAnswers();
        signFull();
        stand();
        stride();
        noRow();
        firstOfAlike();
        stale();
        Random random = new Random(11);
        for (int run = 0; run < 400; run++) {
            byCounting(random);
        }
        C.end();
    }

    private static void signAnswers() {
        StoneRiver x = new StoneRiver();
        for (int kind = 0; kind <= 2; kind++) {
            C.ranges(-2, x, "sign", new long[] {kind, 7, 11, 11}, 0, 2, 0, 20, 0, 11, 11, 39);
            C.refused(-2, x, "sign", kind, 7, 12, 11);
            C.refused(-2, x, "sign", kind, 7, 40, 40);
            C.refused(-2, x, "sign", kind, 7, -1, -1);
        }
        C.due(0, x, "sign", ICE, 20, 39, 39);
        C.due(1, x, "sign", FREE, 0, 0, 0);
        C.due(2, x, "sign", AT, 20, 0, 39);
        C.due(3, x, "count", 5);
    }

    private static void signFull() {
        StoneRiver x = new StoneRiver();
        x.sign(FREE, 20, 0, 0);
        for (int i = 1; i <= 5; i++) {
            C.due(i, x, "sign", AT, i, 0, 39);
        }
        C.refused(-4, x, "sign", AT, 6, 0, 39);
        C.refused(-2, x, "sign", AT, 21, 0, 39);
        for (int i = 6; i < 10; i++) {
            C.due(i, x, "sign", 1 + i % 2, 10, 0, 39);
        }
        C.refused(-4, x, "sign", FREE, 10, 0, 39);
        C.refused(-4, x, "sign", ICE, 10, 0, 39);
        C.refused(-4, x, "sign", AT, 10, 0, 39);
        C.refused(-2, x, "sign", ICE, 10, 3, 2);
        C.due(10, x, "count", 5);
        StoneRiver y = new StoneRiver();
        for (int i = 0; i < 10; i++) {
            C.due(i, y, "sign", FREE, 10, 0, 39);
        }
        C.refused(-4, y, "sign", AT, 10, 0, 39);
    }

    private static void row(StoneRiver x, long travel, int... turns) {
        C.due(travel, x, "stand", -1);
        for (int i = 0; i < turns.length; i += 2) {
            C.due(turns[i + 1], x, "stand", turns[i]);
        }
    }

    private static void stand() {
        StoneRiver x = new StoneRiver();
        row(x, 0, 0, 0, 39, 0);
        C.ranges(-10, x, "stand", new long[] {0}, -1, 39);
        x.sign(ICE, 4, 10, 12);
        row(x, 0, 0, 4, 9, 4, 13, 4, 39, 4);
        x.sign(FREE, 3, 13, 13);
        row(x, 1, 0, 4, 12, 4, 13, 3, 39, 3);
        x.sign(AT, 9, 20, 30);
        // as far down and up as late as may be, so that the row is the first
        row(x, 7, 12, 4, 13, 3, 14, 3, 28, 3, 29, 6, 30, 9, 31, 9, 39, 9);
        x.sign(AT, 3, 25, 26);
        row(x, 7, 25, 3, 28, 3, 29, 6, 30, 9);
        x.sign(AT, 9, 20, 21);
        row(x, 13, 12, 4, 13, 3, 19, 3, 20, 6, 21, 9, 22, 6, 23, 3, 39, 3);
    }

    private static void stride() {
        StoneRiver x = new StoneRiver();
        x.put(1, 20);
        x.sign(AT, 20, 5, 5);
        x.sign(AT, 0, 6, 6);
        row(x, 20, 0, 20, 5, 20, 6, 0, 39, 0);
        x.put(1, 19);
        C.due(-5, x, "stand", -1);
        C.due(-5, x, "stand", 5);
        C.due(-10, x, "stand", 40);
        x.put(1, 20);
        row(x, 20, 5, 20, 6, 0);
        StoneRiver y = new StoneRiver();
        y.put(1, 1);
        y.sign(AT, 0, 0, 0);
        y.sign(AT, 20, 39, 39);
        row(y, 20, 19, 0, 20, 1, 38, 19, 39, 20);
    }

    private static void noRow() {
        StoneRiver x = new StoneRiver();
        x.sign(FREE, 4, 0, 20);
        x.sign(ICE, 5, 21, 39);
        row(x, 1, 20, 4, 21, 5);
        x.image(0);
        x.sign(ICE, 5, 20, 20);
        C.due(-5, x, "stand", -1);
        C.due(-5, x, "stand", 0);
        x.from(0);
        row(x, 1, 20, 4, 21, 5);
        x.sign(AT, 5, 3, 20);
        C.due(-5, x, "stand", 39);
        x.from(0);
        x.sign(AT, 5, 3, 21);
        row(x, 1, 20, 4, 21, 5);
        // two marks in one year
        StoneRiver y = new StoneRiver();
        y.sign(AT, 5, 7, 7);
        y.sign(AT, 5, 7, 7);
        row(y, 0, 7, 5);
        y.sign(AT, 4, 7, 7);
        C.due(-5, y, "stand", -1);
    }

    private static void firstOfAlike() {
        StoneRiver x = new StoneRiver();
        x.sign(AT, 3, 10, 10);
        x.sign(AT, 5, 0, 39);
        row(x, 2, 0, 3, 10, 3, 38, 3, 39, 5);
        StoneRiver y = new StoneRiver();
        y.sign(AT, 5, 0, 39);
        y.sign(AT, 8, 0, 39);
        row(y, 3, 0, 5, 38, 5, 39, 8);
        y.put(1, 1);
        row(y, 3, 0, 5, 36, 5, 37, 6, 38, 7, 39, 8);
        for (int x2 : new int[] {2, 14, 11}) {
            y.sign(AT, x2, 0, 39);
        }
        row(y, 12, 0, 2, 27, 2, 28, 3, 39, 14);
        y.sign(AT, 1, 0, 0);
        C.due(5, y, "count", 5);
    }

    /** What was asked before does not answer what is asked after. */
    private static void stale() {
        StoneRiver x = new StoneRiver();
        x.sign(AT, 5, 3, 3);
        row(x, 0, 0, 5);
        x.image(1);
        staleByOneNumber();
        StoneRiver y = new StoneRiver();
        y.sign(AT, 6, 3, 3);
        row(y, 0, 0, 6);
        row(x, 0, 0, 5);
        x.sign(AT, 6, 4, 4);
        row(x, 1, 0, 5, 4, 6);
        x.from(1);
        row(x, 0, 4, 5);
        x.sign(AT, 7, 4, 4);
        row(x, 2, 4, 7);
        Check.retype(x, "at 9 5 5; at 30 5 5;");
        C.due(-1001, x, "read");
        row(x, 2, 5, 7);
        Check.retype(x, "at 9 5 5;");
        C.due(1, x, "read");
        row(x, 4, 5, 9);
    }

    /** Signs that are alike but for one number, each asked after the one ahead: as of a new object. */
    private static void staleByOneNumber() {
        StoneRiver x = new StoneRiver();
        x.image(0);
        int[][] firsts = {{ICE, 5, 3, 4}, {FREE, 5, 3, 4}, {AT, 5, 3, 4}, {AT, 6, 3, 4}, {AT, 6, 2, 4}, {AT, 6, 2, 2}};
        int[] travels = {5, 0, 5, 6, 6, 6};
        for (int i = 0; i < firsts.length; i++) {
            x.from(0);
            x.sign(firsts[i][0], firsts[i][1], firsts[i][2], firsts[i][3]);
            x.sign(AT, 0, 5, 6);
            StoneRiver fresh = new StoneRiver();
            fresh.sign(firsts[i][0], firsts[i][1], firsts[i][2], firsts[i][3]);
            fresh.sign(AT, 0, 5, 6);
            C.due(travels[i], x, "stand", -1);
            for (int year = -1; year < 40; year++) {
                C.due(fresh.stand(year), x, "stand", year);
            }
        }
        x.from(0);
        C.due(0, x, "stand", -1);
        C.due(0, x, "stand", 5);
    }

    /** Years 0 to 5 with fronts to 3, one front from then on: all rows gone through, the first one first. */
    private static void byCounting(Random random) {
        StoneRiver x = new StoneRiver();
        int stride = 1 + random.nextInt(3);
        x.put(1, stride);
        int after = random.nextInt(4);
        int[][] signs = new int[3 + random.nextInt(6)][];
        signs[0] = new int[] {FREE, 3, 0, 39};
        signs[1] = new int[] {FREE, after, 6, 39};
        signs[2] = new int[] {ICE, after, 6, 39};
        for (int i = 3; i < signs.length; i++) {
            int p = random.nextInt(6);
            int kind = i < 8 ? random.nextInt(6) : 1;
            int q = Math.min(kind > 2 ? 5 : 39, p + random.nextInt(kind > 2 ? 3 : 2));
            signs[i] = new int[] {kind > 2 ? AT : kind, random.nextInt(4), p, q};
        }
        for (int[] sign : signs) {
            if (x.sign(sign[0], sign[1], sign[2], sign[3]) < 0) {
                return;
            }
        }
        int[] best = null;
        int bestWay = 0;
        for (int i = 0; i < 4096; i++) {
            int[] row = new int[40];
            for (int year = 0; year < 40; year++) {
                row[year] = year < 6 ? i >> 2 * (5 - year) & 3 : after;
            }
            int way = wayOf(row, signs, stride);
            if (way >= 0 && (best == null || way < bestWay)) {
                best = row;
                bestWay = way;
            }
        }
        C.due(best == null ? -5 : bestWay, x, "stand", -1);
        for (int year = 0; year < 40; year++) {
            C.due(best == null ? -5 : best[year], x, "stand", year);
        }
    }

    private static int wayOf(int[] row, int[][] signs, int stride) {
        int way = 0;
        for (int year = 1; year < 40; year++) {
            int step = Math.abs(row[year] - row[year - 1]);
            if (step > stride) {
                return -1;
            }
            way += step;
        }
        for (int[] sign : signs) {
            int at = 0;
            for (int year = sign[2]; year <= sign[3]; year++) {
                at += row[year] == sign[1] ? 1 : 0;
                if (sign[0] == FREE && row[year] > sign[1] || sign[0] == ICE && row[year] < sign[1]) {
                    return -1;
                }
            }
            if (sign[0] == AT && at == 0) {
                return -1;
            }
        }
        return way;
    }
}
