import java.util.Arrays;
import java.util.NoSuchElementException;

/** A planner of eyes on a floor. The document (DOC.md) says, by numbered promises, what each call answers. */
public final class FloorEyes {
    public static final int NONE = -1;

    private static final int COLUMNS = 16;
    private static final int ROWS = 12;
    private static final int CELLS = 192;
    private static final int MOST_EYES = 12;
    private static final int ALL_EYES = 4095;
    private static final int WAYS = 8;
    private static final int ALL_WAYS = 255;
    private static final int MOST_REACH = 20;
    private static final int MOST_COST = 10000;
    private static final int MOST_STEPS = 60;
    private static final int ALL_TICKS = 840;

    private final Floor floor;
    private final Eye[] eyes;
    private int eyeCount;
    private final Watch watch;
    private final Plan plan;
    private boolean planStands;
    private final Walk walk;

    public FloorEyes() {
        floor = new Floor();
        eyes = new Eye[MOST_EYES];
        eyeCount = 0;
        watch = new Watch();
        plan = new Plan();
        planStands = false;
        walk = new Walk();
    }

    public int shut(int from, int to, boolean is) throws IndexOutOfBoundsException {
        needCell(from);
        needCell(to);
        int changed = floor.shutRectangle(from, to, is);
        if (changed > 0) {
            forgetAllSights();
            planStands = false;
        }
        return changed;
    }

    public boolean tell(int cell, boolean is) throws IndexOutOfBoundsException {
        needCell(cell);
        planStands = false;
        return put(floor.told, cell, is);
    }

    public boolean hide(int cell, boolean is) throws IndexOutOfBoundsException {
        needCell(cell);
        planStands = false;
        return put(floor.hidden, cell, is);
    }

    public int camera(int x, int y, int reach, int cost, boolean narrow, int way)
            throws IllegalArgumentException, UnsupportedOperationException {
        needWithin(x, 0, COLUMNS);
        needWithin(y, 0, ROWS);
        needWithin(reach, 1, MOST_REACH);
        needWithin(cost, 0, MOST_COST);
        needWithin(way, 0, WAYS - 1);
        if (eyeCount >= MOST_EYES) {
            throw new UnsupportedOperationException("there are 12 cameras");
        }
        Eye eye = new Eye(floor, x, y, reach, cost, narrow);
        eye.addWay(way);
        eyes[eyeCount] = eye;
        eyeCount++;
        planStands = false;
        return eyeCount - 1;
    }

    public int turn(int camera, int way) throws IndexOutOfBoundsException, IllegalArgumentException {
        Eye eye = needEye(camera);
        needWithin(way, 0, WAYS - 1);
        planStands = false;
        return eye.addWay(way);
    }

    public boolean mask(int camera, int cell, boolean is) throws IndexOutOfBoundsException {
        Eye eye = needEye(camera);
        needCell(cell);
        planStands = false;
        return put(eye.masked, cell, is);
    }

    public boolean sees(int camera, int cell, int tick) throws IndexOutOfBoundsException {
        Eye eye = needEye(camera);
        needCell(cell);
        return eye.seesAt(cell, tick);
    }

    public boolean shows(int camera, int cell, int tick) throws IndexOutOfBoundsException {
        Eye eye = needEye(camera);
        needCell(cell);
        return eye.showsAt(cell, tick);
    }

    public boolean serves(int set, boolean safe) {
        makePlanStand();
        return plan.holds(onlyThere(set), safe);
    }

    public int cheapest(boolean safe) {
        makePlanStand();
        int best = NONE;
        int bestCost = 0;
        int sets = 1 << eyeCount;
        // Sets come by growing bits, so that among equals the one of the least bits stays.
        for (int set = 0; set < sets; set++) {
            int price = priceOf(set);
            boolean better = best == NONE || price < bestCost
                    || price == bestCost && Integer.bitCount(set) < Integer.bitCount(best);
            if (better && plan.holds(set, safe)) {
                best = set;
                bestCost = price;
            }
        }
        return best;
    }

    public int cost(int set) {
        return priceOf(onlyThere(set));
    }

    public int unseen(int cell, int set) throws IndexOutOfBoundsException {
        needCell(cell);
        watch.look(eyes, onlyThere(set), cell);
        return watch.longestGap();
    }

    public int blind(int set) {
        int there = onlyThere(set);
        int blindCells = 0;
        for (int cell = 0; cell < CELLS; cell++) {
            if (!floor.shut[cell] && !everSeen(there, cell)) {
                blindCells++;
            }
        }
        return blindCells;
    }

    public int step(int cell) throws IndexOutOfBoundsException {
        needCell(cell);
        return walk.addCell(cell);
    }

    public int stand() {
        return walk.clear();
    }

    public int follow(int set, int what) throws NoSuchElementException {
        if (what < 0 || what > 3) {
            throw new NoSuchElementException("what is 0 to 3");
        }
        walk.pursue(eyes, onlyThere(set));
        if (what == 0) {
            return walk.seenSteps;
        }
        if (what == 1) {
            return walk.longestLoss;
        }
        return what == 2 ? walk.handovers : walk.first;
    }

    public int count(int what) {
        switch (what) {
            case 0:
                return howMany(floor.shut);
            case 1:
                return howMany(floor.told);
            case 2:
                return howMany(floor.hidden);
            case 3:
                return eyeCount;
            case 4:
                return walk.length;
            default:
                return NONE;
        }
    }

    private static void needCell(int cell) {
        if (cell < 0 || cell >= CELLS) {
            throw new IndexOutOfBoundsException("there is no such cell");
        }
    }

    private Eye needEye(int number) {
        Eye eye = number < 0 || number >= eyeCount ? null : eyes[number];
        if (eye == null) {
            throw new IndexOutOfBoundsException("there is no such camera");
        }
        return eye;
    }

    private static void needWithin(int number, int least, int most) {
        if (number < least || number > most) {
            throw new IllegalArgumentException("a number is none");
        }
    }

    private static boolean put(boolean[] marks, int cell, boolean is) {
        boolean otherwise = marks[cell] != is;
        marks[cell] = is;
        return otherwise;
    }

    private static int howMany(boolean[] marks) {
        int sum = 0;
        for (int i = 0; i < marks.length; i++) {
            if (marks[i]) {
                sum++;
            }
        }
        return sum;
    }

    /** A set without the bits of cameras that there are not. */
    private int onlyThere(int set) {
        return set & ((1 << eyeCount) - 1);
    }

    private int priceOf(int set) {
        int sum = 0;
        for (int e = 0; e < eyes.length; e++) {
            Eye eye = eyes[e];
            if ((set >> e & 1) != 0 && eye != null) {
                sum += eye.price;
            }
        }
        return sum;
    }

    private boolean everSeen(int set, int cell) {
        for (int e = 0; e < eyes.length; e++) {
            Eye eye = eyes[e];
            if ((set >> e & 1) != 0 && eye != null && eye.everSees(cell)) {
                return true;
            }
        }
        return false;
    }

    private void forgetAllSights() {
        for (int e = 0; e < eyes.length; e++) {
            Eye eye = eyes[e];
            if (eye != null) {
                eye.forgetSights();
            }
        }
    }

    private void makePlanStand() {
        if (planStands) {
            return;
        }
        plan.begin();
        int there = onlyThere(ALL_EYES);
        for (int cell = 0; cell < CELLS; cell++) {
            if (floor.told[cell] && !floor.shut[cell]) {
                watch.look(eyes, there, cell);
                plan.addNeeds(watch);
            }
            if (floor.hidden[cell]) {
                plan.addShowers(showersOf(cell));
            }
        }
        plan.finish();
        planStands = true;
    }

    private int showersOf(int cell) {
        int showers = 0;
        for (int e = 0; e < eyes.length; e++) {
            Eye eye = eyes[e];
            if (eye != null && eye.everShows(cell)) {
                showers |= 1 << e;
            }
        }
        return showers;
    }

    /** The cells and what is said of each; and what shut cells stand in the way of. */
    private static final class Floor {
        private final boolean[] shut;
        private final boolean[] told;
        private final boolean[] hidden;
        private final Beam beam;

        private Floor() {
            shut = new boolean[CELLS];
            told = new boolean[CELLS];
            hidden = new boolean[CELLS];
            beam = new Beam();
        }

        private int shutRectangle(int from, int to, boolean is) {
            int left = Math.min(from % COLUMNS, to % COLUMNS);
            int right = Math.max(from % COLUMNS, to % COLUMNS);
            int top = Math.min(from / COLUMNS, to / COLUMNS);
            int bottom = Math.max(from / COLUMNS, to / COLUMNS);
            int changed = 0;
            for (int row = top; row <= bottom; row++) {
                for (int column = left; column <= right; column++) {
                    if (put(shut, COLUMNS * row + column, is)) {
                        changed++;
                    }
                }
            }
            return changed;
        }

        /** Whether all the cells at a corner, one, two or four of them, are shut. */
        private boolean isWalledIn(int x, int y) {
            int right = Math.min(x, COLUMNS - 1);
            int bottom = Math.min(y, ROWS - 1);
            for (int row = Math.max(y - 1, 0); row <= bottom; row++) {
                for (int column = Math.max(x - 1, 0); column <= right; column++) {
                    if (!shut[COLUMNS * row + column]) {
                        return false;
                    }
                }
            }
            return true;
        }

        /** Whether no shut cell reaches into the least convex figure of the corner (x, y) and an open cell. */
        private boolean isFigureFree(int x, int y, int cell) {
            beam.start(x, y);
            for (int corner = 0; corner < 4; corner++) {
                beam.take(cornerX(cell, corner), cornerY(cell, corner));
            }
            return beam.isFreeOf(shut);
        }

        /** Whether the line between two corners meets the inside of no shut cell. */
        private boolean isLineFree(int x, int y, int toX, int toY) {
            beam.start(x, y);
            beam.take(toX, toY);
            return beam.isFreeOf(shut);
        }

        private static int cornerX(int cell, int corner) {
            return cell % COLUMNS + (corner & 1);
        }

        private static int cornerY(int cell, int corner) {
            return cell / COLUMNS + (corner >> 1);
        }
    }

    /**
     * The least convex figure of an eye and the corners it takes: those of one cell, or a single one.
     * Two convex figures are apart just if a side of one of them parts them. All sides here run along the
     * axes, and the box round the figure answers for these, but for the two lines from the eye to the first
     * and to the last of the corners by direction.
     */
    private static final class Beam {
        private int eyeX;
        private int eyeY;
        private int left;
        private int right;
        private int top;
        private int bottom;
        private int firstX;
        private int firstY;
        private int lastX;
        private int lastY;

        private void start(int x, int y) {
            eyeX = x;
            eyeY = y;
            left = x;
            right = x;
            top = y;
            bottom = y;
            firstX = 0;
            firstY = 0;
            lastX = 0;
            lastY = 0;
        }

        private void take(int x, int y) {
            int dx = x - eyeX;
            int dy = y - eyeY;
            boolean begins = firstX == 0 && firstY == 0;
            // The eye's own corner has no direction; it neither begins the figure nor widens it.
            if (begins || firstX * dy - firstY * dx < 0) {
                firstX = dx;
                firstY = dy;
            }
            if (begins || lastX * dy - lastY * dx > 0) {
                lastX = dx;
                lastY = dy;
            }
            left = Math.min(left, x);
            right = Math.max(right, x);
            top = Math.min(top, y);
            bottom = Math.max(bottom, y);
        }

        private boolean isFreeOf(boolean[] shut) {
            // How far the corners of a cell go beyond its least one, across the first line and the last.
            int beyondFirst = Math.max(firstX, 0) + Math.max(-firstY, 0);
            int beyondLast = Math.min(lastX, 0) + Math.min(-lastY, 0);
            for (int row = top; row < bottom; row++) {
                int dy = row - eyeY;
                for (int column = left; column < right; column++) {
                    if (shut[COLUMNS * row + column]) {
                        int dx = column - eyeX;
                        if (firstX * dy - firstY * dx + beyondFirst > 0
                                && lastX * dy - lastY * dx + beyondLast < 0) {
                            return false;
                        }
                    }
                }
            }
            return true;
        }
    }

    /** A camera. What it can see by each way is kept until a cell is shut or opened. */
    private static final class Eye {
        private static final int UNKNOWN = -1;

        private final Floor floor;
        private final int x;
        private final int y;
        private final int reach;
        private final int price;
        private final boolean narrow;
        private final int[] round;
        private int roundLength;
        private int roundWays;
        private final boolean[] masked;
        private final int[] seeingWays;
        private final int[] showingWays;

        private Eye(Floor floor, int x, int y, int reach, int price, boolean narrow) {
            this.floor = floor;
            this.x = x;
            this.y = y;
            this.reach = reach;
            this.price = price;
            this.narrow = narrow;
            round = new int[WAYS];
            roundLength = 0;
            roundWays = 0;
            masked = new boolean[CELLS];
            seeingWays = new int[CELLS];
            showingWays = new int[CELLS];
            Arrays.fill(seeingWays, UNKNOWN);
            Arrays.fill(showingWays, UNKNOWN);
        }

        private int addWay(int way) {
            if (roundLength >= WAYS) {
                return NONE;
            }
            round[roundLength] = way;
            roundLength++;
            roundWays |= 1 << way;
            return roundLength;
        }

        private void forgetSights() {
            Arrays.fill(seeingWays, UNKNOWN);
            Arrays.fill(showingWays, UNKNOWN);
        }

        private boolean seesAt(int cell, int tick) {
            return !masked[cell] && (waysThatSee(cell) & wayBitAt(tick)) != 0;
        }

        private boolean everSees(int cell) {
            return !masked[cell] && (waysThatSee(cell) & roundWays) != 0;
        }

        private boolean showsAt(int cell, int tick) {
            return !masked[cell] && (waysThatShow(cell) & wayBitAt(tick)) != 0;
        }

        private boolean everShows(int cell) {
            return !masked[cell] && (waysThatShow(cell) & roundWays) != 0;
        }

        /** The bit of the way at a tick; no bit below tick 0. */
        private int wayBitAt(int tick) {
            return tick < 0 || roundLength < 1 ? 0 : 1 << round[tick % roundLength];
        }

        private int waysThatSee(int cell) {
            if (seeingWays[cell] != UNKNOWN) {
                return seeingWays[cell];
            }
            int ways = floor.shut[cell] || floor.isWalledIn(x, y) ? 0 : ALL_WAYS;
            for (int corner = 0; corner < 4 && ways != 0; corner++) {
                ways &= waysTo(Floor.cornerX(cell, corner), Floor.cornerY(cell, corner));
            }
            if (ways != 0 && !floor.isFigureFree(x, y, cell)) {
                ways = 0;
            }
            seeingWays[cell] = ways;
            return ways;
        }

        private int waysThatShow(int cell) {
            if (showingWays[cell] != UNKNOWN) {
                return showingWays[cell];
            }
            int ways = 0;
            for (int corner = 0; corner < 4; corner++) {
                int cornerX = Floor.cornerX(cell, corner);
                int cornerY = Floor.cornerY(cell, corner);
                int more = waysTo(cornerX, cornerY);
                if ((more & ~ways) != 0 && floor.isLineFree(x, y, cornerX, cornerY)) {
                    ways |= more;
                }
            }
            if (floor.isWalledIn(x, y)) {
                ways = 0;
            }
            showingWays[cell] = ways;
            return ways;
        }

        /** The ways, as bits, in which a corner lies; none if it is beyond the reach. */
        private int waysTo(int cornerX, int cornerY) {
            int dx = cornerX - x;
            int dy = cornerY - y;
            if (dx * dx + dy * dy > reach * reach) {
                return 0;
            }
            int eighths = eighthsOf(dx, dy);
            // A wide way holds the eighth of the circle that begins with it and the one before.
            return narrow ? eighths : (eighths | eighths << 1 | eighths >> 7) & ALL_WAYS;
        }

        /**
         * The eighths of the circle, each from its way to the next one with both, that hold a direction.
         * The eye's own corner, (0, 0), is where all ways begin: it lies in each.
         */
        private static int eighthsOf(int dx, int dy) {
            int eighths = 0;
            if (dy >= 0) {
                eighths |= (dx >= dy ? 1 : 0) | (-dx >= dy ? 8 : 0);
            }
            if (dx >= 0) {
                eighths |= (dy >= dx ? 2 : 0) | (-dy >= dx ? 64 : 0);
            }
            if (dx <= 0) {
                eighths |= (dy >= -dx ? 4 : 0) | (-dy >= -dx ? 32 : 0);
            }
            if (dy <= 0) {
                eighths |= (-dx >= -dy ? 16 : 0) | (dx >= -dy ? 128 : 0);
            }
            return eighths;
        }
    }

    /**
     * Who of a set sees one cell, tick by tick. Rounds of 5 and of 7 are held apart from all others, which
     * fit into 24 ticks: 24, 5 and 7 share no divisor, so that within 840 ticks all that can meet does meet.
     */
    private static final class Watch {
        private final int[] by24;
        private final int[] by5;
        private final int[] by7;

        private Watch() {
            by24 = new int[24];
            by5 = new int[5];
            by7 = new int[7];
        }

        private void look(Eye[] eyes, int set, int cell) {
            Arrays.fill(by24, 0);
            Arrays.fill(by5, 0);
            Arrays.fill(by7, 0);
            for (int e = 0; e < eyes.length; e++) {
                Eye eye = eyes[e];
                if ((set >> e & 1) != 0 && eye != null && !eye.masked[cell]) {
                    note(eye, 1 << e, eye.waysThatSee(cell));
                }
            }
        }

        private void note(Eye eye, int bit, int ways) {
            if ((ways & eye.roundWays) == 0) {
                return;
            }
            int[] seers = eye.roundLength == 5 ? by5 : eye.roundLength == 7 ? by7 : by24;
            for (int tick = 0; tick < seers.length; tick++) {
                if ((ways & eye.wayBitAt(tick)) != 0) {
                    seers[tick] |= bit;
                }
            }
        }

        /** The longest row of ticks without a seer; NONE if there never is one. */
        private int longestGap() {
            int longest = 0;
            int gap = 0;
            boolean seen = false;
            // Twice all ticks, for a gap may go on from the end of them to their beginning.
            for (int tick = 0; tick < 2 * ALL_TICKS; tick++) {
                if ((by24[tick % 24] | by5[tick % 5] | by7[tick % 7]) != 0) {
                    seen = true;
                    gap = 0;
                } else {
                    gap++;
                    longest = Math.max(longest, gap);
                }
            }
            return seen ? longest : NONE;
        }
    }

    /** Which sets serve. It holds for each set of cameras whether a need is left when these are left out. */
    private static final class Plan {
        private static final int WORDS = 64;
        private static final long[] WITHOUT_BIT = {
            0x5555555555555555L, 0x3333333333333333L, 0x0F0F0F0F0F0F0F0FL,
            0x00FF00FF00FF00FFL, 0x0000FFFF0000FFFFL, 0x00000000FFFFFFFFL};

        private final long[] missed;
        private int showers;

        private Plan() {
            missed = new long[WORDS];
            showers = 0;
        }

        private void begin() {
            Arrays.fill(missed, 0L);
            showers = 0;
        }

        private void addShowers(int set) {
            showers |= set;
        }

        /** At each tick one of those who see the cell then is needed. */
        private void addNeeds(Watch watch) {
            for (int a = 0; a < 24; a++) {
                for (int b = 0; b < 5; b++) {
                    // Neighbours that are alike ask for the same again.
                    if (b > 0 && watch.by5[b] == watch.by5[b - 1]) {
                        continue;
                    }
                    for (int c = 0; c < 7; c++) {
                        if (c == 0 || watch.by7[c] != watch.by7[c - 1]) {
                            addNeed(watch.by24[a] | watch.by5[b] | watch.by7[c]);
                        }
                    }
                }
            }
        }

        private void addNeed(int seers) {
            int set = seers & ALL_EYES;
            missed[set >> 6] |= 1L << (set & 63);
        }

        /** Who leaves out more than all seers of a need misses it too. */
        private void finish() {
            for (int bit = 0; bit < 6; bit++) {
                for (int word = 0; word < WORDS; word++) {
                    missed[word] |= (missed[word] & WITHOUT_BIT[bit]) << (1 << bit);
                }
            }
            for (int bit = 1; bit < WORDS; bit <<= 1) {
                for (int word = 0; word < WORDS; word++) {
                    if ((word & bit) != 0) {
                        missed[word] |= missed[word - bit];
                    }
                }
            }
        }

        private boolean holds(int set, boolean safe) {
            if ((set & showers) != 0 || misses(set)) {
                return false;
            }
            if (safe) {
                for (int e = 0; e < MOST_EYES; e++) {
                    if ((set >> e & 1) != 0 && misses(set & ~(1 << e))) {
                        return false;
                    }
                }
            }
            return true;
        }

        private boolean misses(int set) {
            int leftOut = ~set & ALL_EYES;
            return (missed[leftOut >> 6] >> (leftOut & 63) & 1L) != 0L;
        }
    }

    /** The walk, and what came out when it was last followed. */
    private static final class Walk {
        private final int[] cells;
        private int length;
        private int seenSteps;
        private int longestLoss;
        private int handovers;
        private int first;

        private Walk() {
            cells = new int[MOST_STEPS];
            length = 0;
            seenSteps = 0;
            longestLoss = 0;
            handovers = 0;
            first = NONE;
        }

        private int addCell(int cell) {
            if (length >= MOST_STEPS) {
                return NONE;
            }
            cells[length] = cell;
            length++;
            return length;
        }

        private int clear() {
            int had = length;
            length = 0;
            return had;
        }

        private void pursue(Eye[] eyes, int set) {
            seenSteps = 0;
            longestLoss = 0;
            handovers = 0;
            first = NONE;
            int latest = NONE;
            int loss = 0;
            for (int tick = 0; tick < length; tick++) {
                int seers = seersOf(eyes, set, tick);
                if (seers == 0) {
                    loss++;
                    longestLoss = Math.max(longestLoss, loss);
                    continue;
                }
                loss = 0;
                seenSteps++;
                int least = Integer.numberOfTrailingZeros(seers);
                if (latest == NONE) {
                    first = least;
                    latest = least;
                } else if ((seers >> latest & 1) == 0) {
                    // The latest one would have gone on, also behind steps that nobody saw.
                    handovers++;
                    latest = least;
                }
            }
        }

        private int seersOf(Eye[] eyes, int set, int tick) {
            int seers = 0;
            for (int e = 0; e < eyes.length; e++) {
                Eye eye = eyes[e];
                if ((set >> e & 1) != 0 && eye != null && eye.seesAt(cells[tick], tick)) {
                    seers |= 1 << e;
                }
            }
            return seers;
        }
    }
}
