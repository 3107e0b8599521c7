import java.util.Arrays;

/**
 * The river of stones: boulders led to the cliffs that lost them, ridges dated, stands of the ice,
 * a lake that broke through, warmth, and a text that tells what was found. The document DOC.md says,
 * promise by promise, what each call must do; words in capitals here are the document's.
 */
public final class StoneRiver {
    public static final int NONE = -1, BAD = -2, NO = -3, FULL = -4, QUARREL = -5;

    // what laid, age, stand and ice answer instead of BAD
    private static final int BAD_ASKED = -10;
    private static final int FAULT_FOUND = -10;
    private static final int ITEM_REFUSED = -1000;

    private final Found now = new Found();
    private final Found beforeRead = new Found();
    private final Found firstImage = new Found();
    private final Found secondImage = new Found();
    private final Valley valley = new Valley();
    private final Ages ages = new Ages();
    private final Fronts fronts = new Fronts();
    private final Outburst outburst = new Outburst();
    private final Text text = new Text();
    private boolean firstKept;
    private boolean secondKept;

    public StoneRiver() {
    }

    // ---- the valley

    public int surface(int stage, int place, int v) {
        if (!isStage(stage) || !isPlace(place) || !within(v, 0, Valley.HIGHEST)) {
            return BAD;
        }
        return exchange(now.surfaces, Valley.PLACES * stage + place, v);
    }

    public int slope(int stage, int row, int v, int step) {
        if (!isStage(stage) || !within(row, 0, Valley.SIDE - 1) || !within(v, 0, Valley.HIGHEST)
                || !within(step, -50, 50)) {
            return BAD;
        }
        int first = Valley.PLACES * stage + Valley.SIDE * row;
        for (int column = 0; column < Valley.SIDE; column++) {
            now.surfaces[first + column] = Math.max(0, Math.min(Valley.HIGHEST, v - step * column));
        }
        return 1;
    }

    public int flow(int stage, int place) {
        if (!isStage(stage) || !isPlace(place)) {
            return BAD;
        }
        return Valley.directionOfFlow(now.surfaces, stage, place);
    }

    public int cliff(int place, int sort) {
        return isPlaceAndSort(place, sort) ? now.cliffs.add(place, sort, 0, 0, 0) : BAD;
    }

    public int boulder(int place, int sort) {
        return isPlaceAndSort(place, sort) ? now.boulders.add(place, sort, 0, 0, 0) : BAD;
    }

    public int fits(int boulder) {
        return now.boulders.has(boulder) ? valley.fittingCliffs(now, boulder) : BAD;
    }

    public int steps(int boulder, int cliff) {
        if (!now.boulders.has(boulder) || !now.cliffs.has(cliff)) {
            return BAD;
        }
        return valley.fewestSteps(now, boulder, cliff);
    }

    public int home(int boulder) {
        return now.boulders.has(boulder) ? valley.nearestCliff(now, boulder) : BAD;
    }

    public int upstream(int place) {
        return isPlace(place) ? valley.placesAbove(now.surfaces, place) : BAD;
    }

    public int scratch(int place, int direction) {
        if (!isPlace(place) || !within(direction, 0, Scratches.ROUND - 1)) {
            return BAD;
        }
        return now.scratches.add(place, direction, 0, 0, 0);
    }

    public int put(int what, int v) {
        return now.mayPut(what, v) ? exchange(now.numbers, what, v) : BAD;
    }

    public int may(int scratch) {
        return now.scratches.has(scratch) ? Scratches.stagesOf(now, scratch) : BAD;
    }

    public int laid(int what) {
        if (what == NONE) {
            return Scratches.rows(now);
        }
        return now.scratches.has(what) ? Scratches.stageInFirstRow(now, what) : BAD_ASKED;
    }

    // ---- ridges

    public int ridge() {
        if (now.ridges >= Ages.RIDGES) {
            return FULL;
        }
        return now.ridges++;
    }

    public int fact(int scholar, int kind, int a, int b, int c) {
        if (!within(scholar, 0, 1) || !isRidge(a) || !mayTell(kind, a, b, c)) {
            return BAD;
        }
        return now.facts.add(scholar, kind, a, b, kind == Ages.WOOD ? c : 0);
    }

    public int age(int ridge, int facts, int what) {
        if (!isRidge(ridge) || !within(facts, 0, Ages.bitsOfAll(now)) || !within(what, 0, 1)) {
            return BAD_ASKED;
        }
        if (!ages.joinBy(now, facts)) {
            return QUARREL;
        }
        return what == 0 ? ages.leastOf(ridge) : ages.greatestOf(ridge);
    }

    public int fewest() {
        return ages.leftOut(now);
    }

    public int sure(int a, int b) {
        if (!isRidge(a) || !isRidge(b) || a == b) {
            return BAD;
        }
        if (!ages.joinBest(now)) {
            return QUARREL;
        }
        return ages.isYounger(a, b) ? 1 : 0;
    }

    public int core() {
        return ages.joinBest(now) ? ages.ridgeToCore(now.ridges) : QUARREL;
    }

    public int parted() {
        return ages.firstParted(now);
    }

    // ---- stands, lakes, warmth

    public int sign(int kind, int x, int p, int q) {
        if (!within(kind, Fronts.AT, Fronts.OR_FARTHER) || !within(x, 0, Fronts.FARTHEST)
                || !within(p, 0, Fronts.YEARS - 1) || !within(q, p, Fronts.YEARS - 1)) {
            return BAD;
        }
        if (kind == Fronts.AT && Fronts.countAt(now) >= Fronts.MOST_AT) {
            return FULL;
        }
        return now.signs.add(kind, x, p, q, 0);
    }

    public int stand(int year) {
        if (year != NONE && !within(year, 0, Fronts.YEARS - 1)) {
            return BAD_ASKED;
        }
        fronts.draw(now);
        if (fronts.travel() == NONE) {
            return QUARREL;
        }
        return year == NONE ? fronts.travel() : fronts.frontIn(year);
    }

    public int area(int level, int v) {
        return isLevel(level) && within(v, 0, 999) ? exchange(now.areas, level, v) : BAD;
    }

    public int lake(int h, int g, int what) {
        if (!isHeightAndSill(h, g) || !within(what, 0, 2)) {
            return BAD;
        }
        if (what == 0) {
            return Outburst.volume(now.areas, h, g);
        }
        outburst.run(now, h, g);
        return what == 1 ? outburst.hours() : outburst.greatest();
    }

    public int shore(int h, int g, int e, int what) {
        if (!isHeightAndSill(h, g) || !within(e, 0, Outburst.LEVELS) || !within(what, 0, 1)) {
            return BAD;
        }
        int height = what == 0 ? Math.max(h - e, g + 1) : Math.min(h + e, Outburst.LEVELS);
        return Outburst.volume(now.areas, height, g);
    }

    public int zone(int zone, int v) {
        return isZone(zone) && isWarmth(v) ? exchange(now.heights, zone, v) : BAD;
    }

    public int ice(int w, int s) {
        return isWarmth(w) && isWarmth(s) ? Warmth.standsAt(now, w, s) : BAD_ASKED;
    }

    public int warm(int x, int s, int what) {
        if (!isZone(x) || !isWarmth(s) || !within(what, 0, 1)) {
            return BAD;
        }
        return what == 0 ? Warmth.leastFor(now, x, s) : Warmth.greatestFor(now, x, s);
    }

    // ---- texts, what there is

    public int type(long v, int n) {
        return within(n, 1, 8) ? text.append(v, n) : BAD;
    }

    public int clear() {
        int had = text.size();
        text.empty();
        return had;
    }

    public int fault() {
        return text.faultPlace();
    }

    public int read() {
        int place = text.faultPlace();
        if (place != NONE) {
            return FAULT_FOUND - place;
        }
        beforeRead.copyFrom(now);
        text.goToStart();
        int items = 0;
        for (; items < Text.LIMIT && text.takeItem() == Text.ITEM; items++) {
            if (noteItem() < 0) {
                now.copyFrom(beforeRead);
                return ITEM_REFUSED - items;
            }
        }
        text.empty();
        return items;
    }

    public int image(int i) {
        if (!within(i, 0, 1)) {
            return BAD;
        }
        imageOf(i).copyFrom(now);
        firstKept = firstKept || i == 0;
        secondKept = secondKept || i == 1;
        return 1;
    }

    public int from(int i) {
        if (!within(i, 0, 1)) {
            return BAD;
        }
        if (i == 0 ? !firstKept : !secondKept) {
            return NO;
        }
        now.copyFrom(imageOf(i));
        return 1;
    }

    public int count(int what) {
        switch (what) {
            case 0: return now.cliffs.size();
            case 1: return now.boulders.size();
            case 2: return now.scratches.size();
            case 3: return now.ridges;
            case 4: return now.facts.size();
            case 5: return now.signs.size();
            case 6: return text.size();
            default: return BAD;
        }
    }

    public long digest() {
        long h = 521;
        for (int what = 0; what <= 6; what++) {
            h = 31 * h + count(what);
        }
        return now.digestOn(h);
    }

    /** What the item taken last tells comes as by its call: below 0, if that refuses it. */
    private int noteItem() {
        int word = text.word();
        int a = text.number(0);
        int b = text.number(1);
        int c = text.number(2);
        if (word >= Text.FIRST_SIGN) {
            return sign(word - Text.FIRST_SIGN, a, b, c);
        }
        if (word >= Text.FIRST_FACT) {
            return fact(a, word - Text.FIRST_FACT, b, c, text.number(3));
        }
        switch (word) {
            case Text.CLIFF: return cliff(a, b);
            case Text.BOULDER: return boulder(a, b);
            case Text.SCRATCH: return scratch(a, b);
            case Text.RIDGE: return ridge();
            default: return BAD;
        }
    }

    private Found imageOf(int i) {
        return i == 0 ? firstImage : secondImage;
    }

    private boolean isRidge(int ridge) {
        return within(ridge, 0, now.ridges - 1);
    }

    /** Whether a fact of this kind may bear these numbers; a is a ridge. */
    private boolean mayTell(int kind, int a, int b, int c) {
        switch (kind) {
            case Ages.CUTS: return isRidge(b) && a != b;
            case Ages.WOOD: return within(b, 0, Ages.OLDEST) && within(c, b, Ages.OLDEST);
            case Ages.LICHEN: return within(b, 1, 300);
            case Ages.FIND: return within(b, 0, Ages.OLDEST);
            case Ages.MAP: return within(b, 0, Ages.OLDEST);
            default: return false;
        }
    }

    private static boolean isStage(int stage) {
        return within(stage, 0, Valley.STAGES - 1);
    }

    private static boolean isPlace(int place) {
        return within(place, 0, Valley.PLACES - 1);
    }

    private static boolean isPlaceAndSort(int place, int sort) {
        return isPlace(place) && within(sort, 0, 5);
    }

    private static boolean isLevel(int level) {
        return within(level, 0, Outburst.LEVELS - 1);
    }

    private static boolean isHeightAndSill(int h, int g) {
        return within(h, 0, Outburst.LEVELS) && within(g, 0, h - 1);
    }

    private static boolean isZone(int zone) {
        return within(zone, 0, Warmth.ZONES - 1);
    }

    private static boolean isWarmth(int v) {
        return within(v, 0, Warmth.WARMEST);
    }

    private static boolean within(int v, int least, int most) {
        return v >= least && v <= most;
    }

    /** Puts v into the row and answers what stood there. */
    private static int exchange(int[] row, int at, int v) {
        if (at < 0 || at >= row.length) {
            return BAD;
        }
        int was = row[at];
        row[at] = v;
        return was;
    }

    /** Things of one kind, numbered as they come, each told by up to five numbers. */
    static final class Rows {
        private static final int WIDTH = 5;

        private final int limit;
        private final int[] cells;
        private int size;

        Rows(int limit) {
            this.limit = Math.max(0, Math.min(limit, 100));
            this.cells = new int[WIDTH * this.limit];
        }

        int size() {
            return size;
        }

        boolean has(int row) {
            return row >= 0 && row < size;
        }

        int cell(int row, int column) {
            if (!has(row) || column < 0 || column >= WIDTH) {
                return 0;
            }
            return cells[WIDTH * row + column];
        }

        /** The new one's number, or FULL. */
        int add(int a, int b, int c, int d, int e) {
            if (size >= limit) {
                return FULL;
            }
            int at = WIDTH * size;
            cells[at] = a;
            cells[at + 1] = b;
            cells[at + 2] = c;
            cells[at + 3] = d;
            cells[at + 4] = e;
            return size++;
        }

        void copyFrom(Rows other) {
            size = Math.min(limit, other.size);
            System.arraycopy(other.cells, 0, cells, 0, WIDTH * size);
        }

        boolean isLike(Rows other) {
            boolean alike = size == other.size;
            for (int row = 0; row < size && alike; row++) {
                for (int column = 0; column < WIDTH; column++) {
                    alike = alike && cell(row, column) == other.cell(row, column);
                }
            }
            return alike;
        }

        long digestOn(long before, int columns) {
            long h = before;
            for (int row = 0; row < size; row++) {
                for (int column = 0; column < columns; column++) {
                    h = 31 * h + cell(row, column);
                }
            }
            return h;
        }
    }

    /** All that an image keeps. */
    static final class Found {
        static final int TURN = 0, STRIDE = 1, RUNS = 2, MELT = 3, SLOW = 4, FAST = 5;
        private static final int[] LEAST_NUMBERS = {0, 1, 1, 1, 1, 1};
        private static final int[] MOST_NUMBERS = {7, 20, 999, 9, 99, 99};

        final int[] surfaces = new int[Valley.STAGES * Valley.PLACES];
        final Rows cliffs = new Rows(Valley.CLIFFS);
        final Rows boulders = new Rows(10);
        final Rows scratches = new Rows(10);
        final int[] numbers = {1, 3, 50, 2, 10, 30};
        final Rows facts = new Rows(Ages.FACTS);
        final Rows signs = new Rows(Fronts.SIGNS);
        final int[] areas = new int[Outburst.LEVELS];
        final int[] heights = new int[Warmth.ZONES];
        int ridges;

        boolean mayPut(int what, int v) {
            if (what < 0 || what >= numbers.length || v < LEAST_NUMBERS[what] || v > MOST_NUMBERS[what]) {
                return false;
            }
            return !(what == SLOW && v > numbers[FAST]) && !(what == FAST && v < numbers[SLOW]);
        }

        void copyFrom(Found other) {
            System.arraycopy(other.surfaces, 0, surfaces, 0, surfaces.length);
            cliffs.copyFrom(other.cliffs);
            boulders.copyFrom(other.boulders);
            scratches.copyFrom(other.scratches);
            System.arraycopy(other.numbers, 0, numbers, 0, numbers.length);
            facts.copyFrom(other.facts);
            signs.copyFrom(other.signs);
            System.arraycopy(other.areas, 0, areas, 0, areas.length);
            System.arraycopy(other.heights, 0, heights, 0, heights.length);
            ridges = other.ridges;
        }

        long digestOn(long before) {
            long h = digestOf(before, surfaces);
            h = cliffs.digestOn(h, 2);
            h = boulders.digestOn(h, 2);
            h = scratches.digestOn(h, 2);
            h = digestOf(h, numbers);
            h = facts.digestOn(h, 5);
            h = signs.digestOn(h, 4);
            h = digestOf(h, areas);
            return digestOf(h, heights);
        }

        private static long digestOf(long before, int[] row) {
            long h = before;
            for (int v : row) {
                h = 31 * h + v;
            }
            return h;
        }
    }

    /** Where the ice flows, and how stones are carried by it. */
    static final class Valley {
        static final int SIDE = 8, PLACES = 64, STAGES = 3, HIGHEST = 99, CLIFFS = 8;
        static final int DIRECTIONS = 8;
        // columns of cliffs, boulders and scratches
        static final int PLACE = 0, SORT = 1;

        private static final int NEVER = 1000000;
        private static final int[] ROW_STEP = {-1, -1, 0, 1, 1, 1, 0, -1};
        private static final int[] COLUMN_STEP = {0, 1, 1, 1, 0, -1, -1, -1};

        private final int[] next = new int[PLACES];
        private final int[] stepsToGoal = new int[PLACES];
        private final int[] stepsFromEarlier = new int[PLACES];

        /** The direction of FLOW, or NONE. */
        static int directionOfFlow(int[] surfaces, int stage, int place) {
            // no place is lower than one without ice, so that one has no flow by itself
            int lowest = surfaceAt(surfaces, stage, place);
            int direction = NONE;
            for (int d = 0; d < DIRECTIONS; d++) {
                int beside = placeBeside(place, d);
                if (beside != NONE && surfaceAt(surfaces, stage, beside) < lowest) {
                    lowest = surfaceAt(surfaces, stage, beside);
                    direction = d;
                }
            }
            return direction;
        }

        int fewestSteps(Found found, int boulder, int cliff) {
            leadTo(found.surfaces, found.boulders.cell(boulder, PLACE));
            return stepsFrom(found.cliffs.cell(cliff, PLACE));
        }

        int fittingCliffs(Found found, int boulder) {
            leadTo(found.surfaces, found.boulders.cell(boulder, PLACE));
            int bits = 0;
            for (int cliff = 0; cliff < found.cliffs.size(); cliff++) {
                if (stepsOfSort(found, boulder, cliff) != NONE) {
                    bits |= 1 << cliff;
                }
            }
            return bits;
        }

        int nearestCliff(Found found, int boulder) {
            leadTo(found.surfaces, found.boulders.cell(boulder, PLACE));
            int nearest = NONE;
            int fewest = NEVER;
            for (int cliff = 0; cliff < found.cliffs.size(); cliff++) {
                int steps = stepsOfSort(found, boulder, cliff);
                if (steps != NONE && steps < fewest) {
                    fewest = steps;
                    nearest = cliff;
                }
            }
            return nearest;
        }

        int placesAbove(int[] surfaces, int place) {
            leadTo(surfaces, place);
            int many = 0;
            for (int p = 0; p < PLACES; p++) {
                if (stepsFrom(p) != NONE) {
                    many++;
                }
            }
            return many;
        }

        /** Steps from a cliff to where leadTo led, NONE if none lead or the sorts are not alike. */
        private int stepsOfSort(Found found, int boulder, int cliff) {
            if (found.cliffs.cell(cliff, SORT) != found.boulders.cell(boulder, SORT)) {
                return NONE;
            }
            return stepsFrom(found.cliffs.cell(cliff, PLACE));
        }

        private int stepsFrom(int place) {
            if (place < 0 || place >= PLACES || stepsToGoal[place] >= NEVER) {
                return NONE;
            }
            return stepsToGoal[place];
        }

        /** Puts the fewest steps from each place to the goal into stepsToGoal, from the last stage back. */
        private void leadTo(int[] surfaces, int goal) {
            for (int place = 0; place < PLACES; place++) {
                stepsToGoal[place] = place == goal ? 0 : NEVER;
            }
            for (int stage = STAGES - 1; stage >= 0; stage--) {
                for (int place = 0; place < PLACES; place++) {
                    next[place] = placeBeside(place, directionOfFlow(surfaces, stage, place));
                }
                for (int place = 0; place < PLACES; place++) {
                    stepsFromEarlier[place] = fewestDownFrom(place);
                }
                System.arraycopy(stepsFromEarlier, 0, stepsToGoal, 0, PLACES);
            }
        }

        /** The fewest steps to the goal, if the stone goes any way down this stage's flow first. */
        private int fewestDownFrom(int place) {
            int fewest = NEVER;
            int at = place;
            for (int walked = 0; walked < PLACES && at >= 0 && at < PLACES; walked++) {
                fewest = Math.min(fewest, walked + stepsToGoal[at]);
                at = next[at];
            }
            return fewest;
        }

        private static int surfaceAt(int[] surfaces, int stage, int place) {
            int at = PLACES * stage + place;
            return at >= 0 && at < surfaces.length ? surfaces[at] : 0;
        }

        /** The place one step on, or NONE (beyond the valley, or no direction). */
        private static int placeBeside(int place, int direction) {
            if (direction < 0 || direction >= DIRECTIONS) {
                return NONE;
            }
            int row = place / SIDE + ROW_STEP[direction];
            int column = place % SIDE + COLUMN_STEP[direction];
            boolean outside = row < 0 || row >= SIDE || column < 0 || column >= SIDE;
            return outside ? NONE : SIDE * row + column;
        }
    }

    /** Scratches, stage by stage. */
    static final class Scratches {
        static final int ROUND = 16;
        private static final int DIRECTION = 1;

        private Scratches() {
        }

        /** MAY, as bits. */
        static int stagesOf(Found found, int scratch) {
            int place = found.scratches.cell(scratch, Valley.PLACE);
            int direction = found.scratches.cell(scratch, DIRECTION);
            int bits = 0;
            for (int stage = 0; stage < Valley.STAGES; stage++) {
                int flow = Valley.directionOfFlow(found.surfaces, stage, place);
                if (flow != NONE && turnBetween(2 * flow, direction) <= found.numbers[Found.TURN]) {
                    bits |= 1 << stage;
                }
            }
            return bits;
        }

        /** How many rows of LAID there are: places do not bind one another, so theirs are multiplied. */
        static int rows(Found found) {
            int rows = 1;
            for (int scratch = 0; scratch < found.scratches.size(); scratch++) {
                if (isFirstAtItsPlace(found, scratch)) {
                    rows *= rowsAtPlaceOf(found, scratch);
                }
            }
            return rows;
        }

        /** Taking the earliest stage each time leaves most to the newer ones, so it is the first row. */
        static int stageInFirstRow(Found found, int scratch) {
            if (rows(found) == 0) {
                return NONE;
            }
            int earliest = 0;
            for (int other = 0; other <= scratch; other++) {
                if (areAtOnePlace(found, other, scratch)) {
                    int stages = stagesOf(found, other) >> earliest << earliest;
                    earliest = Math.min(Valley.STAGES - 1, Integer.numberOfTrailingZeros(stages));
                }
            }
            return earliest;
        }

        private static int rowsAtPlaceOf(Found found, int first) {
            // rows so far that end with stage 0, 1, 2; one empty row to begin with
            int ends0 = 1;
            int ends1 = 0;
            int ends2 = 0;
            for (int scratch = first; scratch < found.scratches.size(); scratch++) {
                if (areAtOnePlace(found, first, scratch)) {
                    int stages = stagesOf(found, scratch);
                    ends2 = (stages & 4) == 0 ? 0 : ends0 + ends1 + ends2;
                    ends1 = (stages & 2) == 0 ? 0 : ends0 + ends1;
                    ends0 = (stages & 1) == 0 ? 0 : ends0;
                }
            }
            return ends0 + ends1 + ends2;
        }

        private static boolean isFirstAtItsPlace(Found found, int scratch) {
            for (int other = 0; other < scratch; other++) {
                if (areAtOnePlace(found, other, scratch)) {
                    return false;
                }
            }
            return true;
        }

        private static boolean areAtOnePlace(Found found, int a, int b) {
            return found.scratches.cell(a, Valley.PLACE) == found.scratches.cell(b, Valley.PLACE);
        }

        private static int turnBetween(int a, int b) {
            int turn = Math.floorMod(a - b, ROUND);
            return Math.min(turn, ROUND - turn);
        }
    }

    /** Ages of ridges by facts. */
    static final class Ages {
        static final int RIDGES = 8, FACTS = 16, OLDEST = 999;
        static final int CUTS = 0, WOOD = 1, LICHEN = 2, FIND = 3, MAP = 4;
        private static final int MOST_LEFT_OUT = 4;
        // more ways than there are to leave out 4 of 16
        private static final int MOST_WAYS = 2000;
        // columns of facts
        private static final int SCHOLAR = 0, KIND = 1, A = 2, B = 3, C = 4;

        private final int[] least = new int[RIDGES];
        private final int[] greatest = new int[RIDGES];
        private final int[] leastBefore = new int[RIDGES];
        private final int[] greatestBefore = new int[RIDGES];
        // the facts as bounds of one ridge, and as an older ridge (NONE but for CUTS)
        private final int[] ridgeOf = new int[FACTS];
        private final int[] olderOf = new int[FACTS];
        private final int[] lowOf = new int[FACTS];
        private final int[] highOf = new int[FACTS];
        private int taken;
        // the longest row of cuts from a ridge to an older one, 0 if there is none
        private final int[] cutsBetween = new int[RIDGES * RIDGES];
        // what leftOut was found for, so that it is not sought again for the same
        private final Rows soughtFor = new Rows(FACTS);
        private int soughtSlow;
        private int soughtFast;
        private int lastLeftOut;

        static int bitsOfAll(Found found) {
            return (1 << found.facts.size()) - 1;
        }

        /** AGES by these facts; false if they quarrel. */
        boolean joinBy(Found found, int facts) {
            take(found);
            return join(facts);
        }

        /** AGES by all facts but FEWEST, and the cuts between ridges; false if 4 do not do. */
        boolean joinBest(Found found) {
            int out = leftOut(found);
            if (out == QUARREL) {
                return false;
            }
            int facts = bitsOfAll(found) & ~out;
            boolean joined = joinBy(found, facts);
            countCuts(facts);
            return joined;
        }

        int leastOf(int ridge) {
            return ridge >= 0 && ridge < RIDGES ? least[ridge] : NONE;
        }

        int greatestOf(int ridge) {
            return ridge >= 0 && ridge < RIDGES ? greatest[ridge] : NONE;
        }

        /** FEWEST as bits, or QUARREL. */
        int leftOut(Found found) {
            int slow = found.numbers[Found.SLOW];
            int fast = found.numbers[Found.FAST];
            if (slow != soughtSlow || fast != soughtFast || !soughtFor.isLike(found.facts)) {
                take(found);
                lastLeftOut = seekLeftOut(bitsOfAll(found));
                soughtFor.copyFrom(found.facts);
                soughtSlow = slow;
                soughtFast = fast;
            }
            return lastLeftOut;
        }

        /** Whether a is younger than b in all ages, after joinBest. */
        boolean isYounger(int a, int b) {
            return cuts(a, b) > 0 || greatestOf(a) < leastOf(b);
        }

        /** CORE of as many ridges, after joinBest. */
        int ridgeToCore(int ridges) {
            int best = NONE;
            int bestSpans = 0;
            for (int ridge = 0; ridge < ridges; ridge++) {
                int worst = 0;
                for (int year = leastOf(ridge); year <= greatestOf(ridge); year++) {
                    worst = Math.max(worst, spansIfKnown(ridges, ridge, year));
                }
                if (best == NONE || worst < bestSpans) {
                    best = ridge;
                    bestSpans = worst;
                }
            }
            return best;
        }

        /** PARTED: a ridge, NONE or QUARREL. */
        int firstParted(Found found) {
            if (!joinBy(found, bitsOfScholar(found, 0))) {
                return QUARREL;
            }
            System.arraycopy(least, 0, leastBefore, 0, RIDGES);
            System.arraycopy(greatest, 0, greatestBefore, 0, RIDGES);
            if (!joinBy(found, bitsOfScholar(found, 1))) {
                return QUARREL;
            }
            int ridges = Math.min(found.ridges, RIDGES);
            for (int ridge = 0; ridge < ridges; ridge++) {
                if (greatestBefore[ridge] < least[ridge] || greatest[ridge] < leastBefore[ridge]) {
                    return ridge;
                }
            }
            return NONE;
        }

        private static int bitsOfScholar(Found found, int scholar) {
            int bits = 0;
            for (int fact = 0; fact < found.facts.size(); fact++) {
                if (found.facts.cell(fact, SCHOLAR) == scholar) {
                    bits |= 1 << fact;
                }
            }
            return bits;
        }

        private void take(Found found) {
            taken = Math.min(FACTS, found.facts.size());
            for (int fact = 0; fact < taken; fact++) {
                int kind = found.facts.cell(fact, KIND);
                int b = found.facts.cell(fact, B);
                ridgeOf[fact] = found.facts.cell(fact, A) & (RIDGES - 1);
                olderOf[fact] = kind == CUTS ? b & (RIDGES - 1) : NONE;
                lowOf[fact] = 0;
                highOf[fact] = OLDEST;
                if (kind == WOOD || kind == MAP) {
                    lowOf[fact] = b;
                }
                if (kind == WOOD) {
                    highOf[fact] = found.facts.cell(fact, C);
                }
                if (kind == LICHEN) {
                    lowOf[fact] = b * found.numbers[Found.SLOW];
                    highOf[fact] = b * found.numbers[Found.FAST];
                }
                if (kind == FIND) {
                    highOf[fact] = b;
                }
            }
        }

        private int seekLeftOut(int all) {
            if (join(all)) {
                return 0;
            }
            for (int many = 1; many <= MOST_LEFT_OUT; many++) {
                int out = (1 << many) - 1;
                for (int way = 0; way < MOST_WAYS && out <= all; way++) {
                    if (join(all & ~out)) {
                        return out;
                    }
                    out = nextOfAsManyBits(out);
                }
            }
            return QUARREL;
        }

        private static int nextOfAsManyBits(int bits) {
            int lowest = bits & -bits;
            int carried = bits + lowest;
            return carried | ((bits ^ carried) >> (Integer.numberOfTrailingZeros(bits) + 2));
        }

        private boolean join(int facts) {
            Arrays.fill(least, 0);
            Arrays.fill(greatest, OLDEST);
            for (int fact = 0; fact < taken; fact++) {
                if ((facts >> fact & 1) != 0) {
                    int ridge = ridgeOf[fact];
                    least[ridge] = Math.max(least[ridge], lowOf[fact]);
                    greatest[ridge] = Math.min(greatest[ridge], highOf[fact]);
                }
            }
            // a row of cuts without a ring is shorter than the ridges are many: who still moves has a ring
            boolean moves = true;
            for (int round = 0; round < RIDGES && moves; round++) {
                moves = moveByCuts(facts);
            }
            return !moves && haveAllAges();
        }

        private boolean moveByCuts(int facts) {
            boolean moved = false;
            for (int fact = 0; fact < taken; fact++) {
                int older = olderOf[fact];
                if ((facts >> fact & 1) != 0 && older != NONE) {
                    int younger = ridgeOf[fact];
                    if (least[older] <= least[younger]) {
                        least[older] = least[younger] + 1;
                        moved = true;
                    }
                    if (greatest[younger] >= greatest[older]) {
                        greatest[younger] = greatest[older] - 1;
                        moved = true;
                    }
                }
            }
            return moved;
        }

        private boolean haveAllAges() {
            for (int ridge = 0; ridge < RIDGES; ridge++) {
                if (least[ridge] > greatest[ridge]) {
                    return false;
                }
            }
            return true;
        }

        /** Puts the longest rows of cuts into cutsBetween; these facts have no ring. */
        private void countCuts(int facts) {
            Arrays.fill(cutsBetween, 0);
            for (int fact = 0; fact < taken; fact++) {
                if ((facts >> fact & 1) != 0 && olderOf[fact] != NONE) {
                    cutsBetween[RIDGES * ridgeOf[fact] + olderOf[fact]] = 1;
                }
            }
            for (int by = 0; by < RIDGES; by++) {
                for (int a = 0; a < RIDGES; a++) {
                    for (int b = 0; b < RIDGES; b++) {
                        if (cuts(a, by) > 0 && cuts(by, b) > 0) {
                            int both = cuts(a, by) + cuts(by, b);
                            cutsBetween[RIDGES * a + b] = Math.max(cuts(a, b), both);
                        }
                    }
                }
            }
        }

        private int cuts(int a, int b) {
            int at = RIDGES * a + b;
            return at >= 0 && at < cutsBetween.length ? cutsBetween[at] : 0;
        }

        /** All spans together, if the ridge's age were known to be this year. */
        private int spansIfKnown(int ridges, int known, int year) {
            int spans = 0;
            for (int ridge = 0; ridge < ridges; ridge++) {
                int low = leastOf(ridge);
                int high = greatestOf(ridge);
                if (cuts(known, ridge) > 0) {
                    low = Math.max(low, year + cuts(known, ridge));
                }
                if (cuts(ridge, known) > 0) {
                    high = Math.min(high, year - cuts(ridge, known));
                }
                if (ridge != known) {
                    spans += high - low;
                }
            }
            return spans;
        }
    }

    /** Where the front stood, year by year. */
    static final class Fronts {
        static final int YEARS = 40, FARTHEST = 20, SIGNS = 10, MOST_AT = 5;
        static final int AT = 0, NO_FARTHER = 1, OR_FARTHER = 2;
        private static final int PLACES = FARTHEST + 1;
        private static final int MOST_SEEN = 1 << MOST_AT;
        private static final int NEVER = 1000000;
        // columns of signs
        private static final int KIND = 0, X = 1, P = 2, Q = 3;

        // the least way from a year on to the last, by year, by signs AT seen in years ahead, by front
        private final int[] wayOn = new int[YEARS * MOST_SEEN * PLACES];
        private final int[] lowest = new int[YEARS];
        private final int[] highest = new int[YEARS];
        private final int[] seenAt = new int[YEARS * PLACES];
        private final int[] firstRow = new int[YEARS];
        private int allSeen;
        private int stride;
        private int travel;
        // what was drawn, so that it is not drawn again for the same
        private final Rows drawnFor = new Rows(SIGNS);
        private int drawnStride;

        static int countAt(Found found) {
            int many = 0;
            for (int sign = 0; sign < found.signs.size(); sign++) {
                if (found.signs.cell(sign, KIND) == AT) {
                    many++;
                }
            }
            return many;
        }

        /** TRAVEL, NONE if no row bears all signs, after draw. */
        int travel() {
            return travel;
        }

        /** The front in a year of the first row, after draw. */
        int frontIn(int year) {
            return year >= 0 && year < YEARS ? firstRow[year] : NONE;
        }

        void draw(Found found) {
            stride = found.numbers[Found.STRIDE];
            if (stride == drawnStride && drawnFor.isLike(found.signs)) {
                return;
            }
            takeSigns(found.signs);
            for (int year = YEARS - 1; year >= 0; year--) {
                findWaysFrom(year);
            }
            followFirstRow();
            drawnFor.copyFrom(found.signs);
            drawnStride = stride;
        }

        private void takeSigns(Rows signs) {
            Arrays.fill(lowest, 0);
            Arrays.fill(highest, FARTHEST);
            Arrays.fill(seenAt, 0);
            int bit = 1;
            for (int sign = 0; sign < signs.size(); sign++) {
                takeSign(signs, sign, bit);
                if (signs.cell(sign, KIND) == AT) {
                    bit <<= 1;
                }
            }
            allSeen = Math.min(bit, MOST_SEEN) - 1;
        }

        private void takeSign(Rows signs, int sign, int bit) {
            int kind = signs.cell(sign, KIND);
            int x = Math.max(0, Math.min(signs.cell(sign, X), FARTHEST));
            int last = Math.min(signs.cell(sign, Q), YEARS - 1);
            for (int year = Math.max(0, signs.cell(sign, P)); year <= last; year++) {
                if (kind == AT) {
                    seenAt[PLACES * year + x] |= bit;
                } else if (kind == NO_FARTHER) {
                    highest[year] = Math.min(highest[year], x);
                } else {
                    lowest[year] = Math.max(lowest[year], x);
                }
            }
        }

        private void findWaysFrom(int year) {
            for (int seen = 0; seen <= allSeen; seen++) {
                for (int front = 0; front < PLACES; front++) {
                    wayOn[wayAt(year, seen, front)] = leastWayFrom(year, seen, front);
                }
            }
        }

        private int leastWayFrom(int year, int seen, int front) {
            if (front < lowest[year] || front > highest[year]) {
                return NEVER;
            }
            int seenNow = (seen | seenAt[PLACES * year + front]) & allSeen;
            if (year == YEARS - 1) {
                return seenNow == allSeen ? 0 : NEVER;
            }
            int least = NEVER;
            int last = Math.min(FARTHEST, front + stride);
            for (int to = Math.max(0, front - stride); to <= last; to++) {
                least = Math.min(least, Math.abs(to - front) + wayOn[wayAt(year + 1, seenNow, to)]);
            }
            return least;
        }

        private void followFirstRow() {
            int seen = 0;
            int front = leastFront(0, seen, 0, FARTHEST, 0);
            travel = wayOn[wayAt(0, seen, front)];
            if (travel >= NEVER) {
                travel = NONE;
                return;
            }
            for (int year = 0; year < YEARS; year++) {
                if (year > 0) {
                    front = leastFront(year, seen, Math.max(0, front - stride),
                            Math.min(FARTHEST, front + stride), front);
                }
                firstRow[year] = front;
                seen = (seen | seenAt[PLACES * year + front]) & allSeen;
            }
        }

        /** The least of the fronts from low to high with the least way, the step from the last front too. */
        private int leastFront(int year, int seen, int low, int high, int lastFront) {
            int best = low;
            int bestWay = NEVER;
            for (int front = low; front <= high; front++) {
                int step = year == 0 ? 0 : Math.abs(front - lastFront);
                int way = step + wayOn[wayAt(year, seen, front)];
                if (way < bestWay) {
                    best = front;
                    bestWay = way;
                }
            }
            return best;
        }

        private static int wayAt(int year, int seen, int front) {
            return (year * MOST_SEEN + seen) * PLACES + front;
        }
    }

    /** How a lake breaks through to a sill. */
    static final class Outburst {
        static final int LEVELS = 20;
        private static final int MOST_HOURS = 1000;

        private final int[] left = new int[LEVELS];
        private int hours;
        private int greatest;

        static int volume(int[] areas, int h, int g) {
            int volume = 0;
            for (int level = Math.max(0, g); level < h && level < areas.length; level++) {
                volume += areas[level];
            }
            return volume;
        }

        int hours() {
            return hours;
        }

        int greatest() {
            return greatest;
        }

        void run(Found found, int h, int g) {
            int all = volume(found.areas, h, g);
            System.arraycopy(found.areas, 0, left, 0, LEVELS);
            hours = 0;
            greatest = 0;
            int top = Math.min(h, LEVELS) - 1;
            while (all > 0 && hours < MOST_HOURS) {
                top = highestWithSomething(top, g);
                int out = Math.min(all, found.numbers[Found.RUNS] * (top - g + 1));
                drain(top, g, out);
                all -= out;
                greatest = Math.max(greatest, out);
                hours++;
            }
        }

        private int highestWithSomething(int top, int g) {
            int level = top;
            while (level > g && level > 0 && left[level] == 0) {
                level--;
            }
            return level;
        }

        private void drain(int top, int g, int out) {
            int still = out;
            for (int level = top; level >= g && level >= 0; level--) {
                int gone = Math.min(still, left[level]);
                left[level] -= gone;
                still -= gone;
            }
        }
    }

    /** Where the ice stands by warmth and snow. */
    static final class Warmth {
        static final int ZONES = 21, WARMEST = 60;

        private Warmth() {
        }

        /** The last zone to which all gain 0 or more together, or NONE. */
        static int standsAt(Found found, int w, int s) {
            int last = NONE;
            int gain = 0;
            for (int zone = 0; zone < ZONES; zone++) {
                gain += s - found.numbers[Found.MELT] * Math.max(0, w - found.heights[zone]);
                if (gain >= 0) {
                    last = zone;
                }
            }
            return last;
        }

        static int leastFor(Found found, int x, int s) {
            for (int w = 0; w <= WARMEST; w++) {
                if (standsAt(found, w, s) == x) {
                    return w;
                }
            }
            return NONE;
        }

        static int greatestFor(Found found, int x, int s) {
            for (int w = WARMEST; w >= 0; w--) {
                if (standsAt(found, w, s) == x) {
                    return w;
                }
            }
            return NONE;
        }
    }

    /** THE TEXT, and its items taken one by one. */
    static final class Text {
        static final int LIMIT = 240;
        // what takeItem answers
        static final int ITEM = 1, NO_MORE = 0, FAULTY = -1;
        // the words' numbers
        static final int CLIFF = 0, BOULDER = 1, SCRATCH = 2, RIDGE = 3, FIRST_FACT = 4, FIRST_SIGN = 9;

        private static final int END = 0, WORD = 1, NUMBER = 2, STOP = 3, WRONG = 4;
        private static final int MOST_FIGURES = 4;
        private static final int WORD_COUNT = 12;
        // the words in the order of their numbers (facts and signs by kind), each in as many signs
        private static final int WORD_SIGNS = 8;
        private static final String WORDS =
                "cliff   boulder scratch ridge   cuts    wood    lichen  find    map     at      free    ice     ";
        private static final int[] NUMBERS_AFTER = {2, 2, 2, 0, 3, 4, 3, 3, 3, 3, 3, 3};

        private final int[] bytes = new int[LIMIT];
        private int size;
        // the token taken last: its first byte, and the number or the word's number; and where the next begins
        private int start;
        private int value;
        private int next;
        // the item taken last
        private int word;
        private final int[] numbers = new int[MOST_FIGURES];

        int size() {
            return size;
        }

        void empty() {
            size = 0;
        }

        int append(long v, int n) {
            if (n > LIMIT - size) {
                return FULL;
            }
            for (int shift = 8 * (n - 1); shift >= 0; shift -= 8) {
                bytes[size] = (int) (v >> shift & 255);
                size++;
            }
            return size;
        }

        /** FAULT, or NONE. */
        int faultPlace() {
            goToStart();
            int taken = ITEM;
            for (int items = 0; items <= LIMIT && taken == ITEM; items++) {
                taken = takeItem();
            }
            return taken == FAULTY ? start : NONE;
        }

        void goToStart() {
            next = 0;
        }

        int word() {
            return word;
        }

        int number(int i) {
            return i >= 0 && i < numbers.length ? numbers[i] : NONE;
        }

        int takeItem() {
            int token = takeToken();
            if (token == END) {
                return NO_MORE;
            }
            if (token != WORD || value < 0 || value >= WORD_COUNT) {
                return FAULTY;
            }
            word = value;
            int due = Math.min(NUMBERS_AFTER[word], numbers.length);
            for (int i = 0; i < due; i++) {
                if (takeToken() != NUMBER) {
                    return FAULTY;
                }
                numbers[i] = value;
            }
            return takeToken() == STOP ? ITEM : FAULTY;
        }

        private int takeToken() {
            while (next < size && bytes[next] == ' ') {
                next++;
            }
            start = next;
            if (next >= size) {
                return END;
            }
            if (bytes[next] == ';') {
                next++;
                return STOP;
            }
            if (isLetter(bytes[next])) {
                return takeWord();
            }
            return isFigure(bytes[next]) ? takeNumber() : WRONG;
        }

        private int takeWord() {
            while (next < size && isLetter(bytes[next])) {
                next++;
            }
            value = NONE;
            for (int w = 0; w < WORD_COUNT; w++) {
                if (isTokenTheWord(w)) {
                    value = w;
                }
            }
            return value == NONE ? WRONG : WORD;
        }

        private boolean isTokenTheWord(int w) {
            if (next - start > WORD_SIGNS) {
                return false;
            }
            for (int i = 0; i < WORD_SIGNS; i++) {
                int sign = start + i < next ? bytes[start + i] : ' ';
                if (WORDS.charAt(WORD_SIGNS * w + i) != sign) {
                    return false;
                }
            }
            return true;
        }

        private int takeNumber() {
            value = 0;
            while (next < size && isFigure(bytes[next])) {
                value = 10 * value + bytes[next] - '0';
                next++;
            }
            return next - start > MOST_FIGURES ? WRONG : NUMBER;
        }

        private static boolean isLetter(int b) {
            return b >= 'a' && b <= 'z';
        }

        private static boolean isFigure(int b) {
            return b >= '0' && b <= '9';
        }
    }
}
