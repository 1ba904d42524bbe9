import java.util.ArrayList;
import java.util.Arrays;
import java.util.List;
import java.util.NoSuchElementException;
import java.util.Random;

/**
 * Long runs of calls against a second, slow program that follows the document's words by other means:
 * angles by atan2, figures by clipping their hulls, lines by clipping, all 840 ticks one by one.
 */
public final class FloorEyesOracle {
    private static final int CALLS = 512;
    private static final double TINY = 1e-9;
    private static int wrong = 0;

    public static void main(String[] args) {
        for (int seed = 1; seed <= 240 && wrong == 0; seed++) {
            run(seed);
        }
        System.out.println(wrong == 0 ? "both programs answer alike" : wrong + " answers differ");
        if (wrong != 0) {
            System.exit(1);
        }
    }

    /** A call of either program, with its arguments. */
    private interface Side {
        long call(int kind, int[] a);
    }

    private static void run(int seed) {
        Random random = new Random(seed);
        FloorEyes real = new FloorEyes();
        Plain plain = new Plain();
        List<String> log = new ArrayList<>();
        int style = seed % 6;
        for (int i = 0; i < CALLS && wrong == 0; i++) {
            int kind = kind(random, style, i);
            int[] a = arguments(random, kind, style);
            String got = answer((k, b) -> real(real, k, b), kind, a);
            String want = answer(plain::call, kind, a);
            log.add(kind + Arrays.toString(a) + " -> " + got);
            if (!got.equals(want)) {
                wrong++;
                System.out.println("seed " + seed + ", due is " + want + " at the end of:");
                log.forEach(System.out::println);
            }
        }
    }

    private static final String[] KINDS = {
        "shut", "tell", "hide", "camera", "turn", "mask", "sees", "shows", "serves", "cheapest", "cost",
        "unseen", "blind", "step", "stand", "follow", "count"};

    private static int kind(Random random, int style, int i) {
        if (i < 40 && random.nextInt(3) == 0) {
            return 3;
        }
        if (style >= 3 && random.nextInt(6) == 0) {
            return 4;
        }
        if (random.nextInt(3) == 0) {
            return 6 + random.nextInt(2);
        }
        int kind = random.nextInt(KINDS.length);
        boolean rare = kind == 2 || kind == 14;
        return rare && random.nextInt(4) != 0 ? 13 : kind;
    }

    private static int[] arguments(Random random, int kind, int style) {
        boolean dense = style % 3 == 1;
        int cell = dense && random.nextInt(4) != 0 ? denseCell(random) : within(random, 192);
        int eye = within(random, 1 + random.nextInt(12));
        int set = random.nextInt(5) == 0 ? random.nextInt() : random.nextInt(4096);
        if (random.nextInt(6) == 0) {
            set |= 4095;
        }
        int is = random.nextInt(4) == 0 ? 0 : 1;
        int tick = random.nextInt(20) == 0 ? random.nextInt() : random.nextInt(20);
        switch (kind) {
            case 0:
                return shutArguments(random, cell, style);
            case 1:
            case 2:
                // Where much is told or private, no set serves.
                return new int[] {cell, random.nextInt(10) < (!dense ? 6 : kind == 1 ? 4 : 1) ? 1 : 0};
            case 3:
                return new int[] {within(random, 17), within(random, 13),
                    dense ? 8 + random.nextInt(13) : 1 + within(random, 20),
                    random.nextInt(30) == 0 ? random.nextInt(20002) - 5000 : random.nextInt(4),
                    random.nextInt(2), within(random, 8)};
            case 4:
                return new int[] {eye, within(random, 8)};
            case 5:
                return new int[] {eye, cell, is};
            case 6:
            case 7:
                return new int[] {eye, cell, tick};
            case 8:
                return new int[] {set, random.nextInt(2)};
            case 9:
                return new int[] {random.nextInt(2)};
            case 11:
                return new int[] {cell, set};
            case 13:
                return new int[] {cell};
            case 14:
                return new int[0];
            case 15:
                return new int[] {set, random.nextInt(6) - 1};
            case 16:
                return new int[] {random.nextInt(7) - 1};
            default:
                return new int[] {set};
        }
    }

    private static int[] shutArguments(Random random, int cell, int style) {
        int is = random.nextInt(5) < (style % 3 == 1 ? 4 : 2) ? 0 : 1;
        int to = cell;
        if (random.nextInt(4) == 0) {
            to = within(random, 192);
            // Great walls would soon leave nothing to be seen.
            is = style % 3 == 0 && random.nextInt(3) == 0 ? 1 : 0;
        } else if (random.nextInt(3) == 0) {
            to = cell + (random.nextBoolean() ? 1 : 16);
        }
        return new int[] {cell, to, is};
    }

    /** One of few cells in the middle, so that what is told, private, masked and walked often meets. */
    private static int denseCell(Random random) {
        return 16 * (5 + random.nextInt(3)) + 6 + random.nextInt(4);
    }

    /** Mostly 0 to bound - 1; now and then just outside, or far. */
    private static int within(Random random, int bound) {
        int turn = random.nextInt(80);
        if (turn == 0) {
            return -1;
        }
        if (turn == 1) {
            return bound;
        }
        return turn == 2 ? random.nextInt() : random.nextInt(bound);
    }

    private static String answer(Side side, int kind, int[] a) {
        try {
            return Long.toString(side.call(kind, a));
        } catch (RuntimeException e) {
            return e.getClass().getName();
        }
    }

    private static long real(FloorEyes x, int kind, int[] a) {
        switch (kind) {
            case 0:
                return x.shut(a[0], a[1], a[2] == 1);
            case 1:
                return x.tell(a[0], a[1] == 1) ? 1 : 0;
            case 2:
                return x.hide(a[0], a[1] == 1) ? 1 : 0;
            case 3:
                return x.camera(a[0], a[1], a[2], a[3], a[4] == 1, a[5]);
            case 4:
                return x.turn(a[0], a[1]);
            case 5:
                return x.mask(a[0], a[1], a[2] == 1) ? 1 : 0;
            case 6:
                return x.sees(a[0], a[1], a[2]) ? 1 : 0;
            case 7:
                return x.shows(a[0], a[1], a[2]) ? 1 : 0;
            case 8:
                return x.serves(a[0], a[1] == 1) ? 1 : 0;
            case 9:
                return x.cheapest(a[0] == 1);
            case 10:
                return x.cost(a[0]);
            case 11:
                return x.unseen(a[0], a[1]);
            case 12:
                return x.blind(a[0]);
            case 13:
                return x.step(a[0]);
            case 14:
                return x.stand();
            case 15:
                return x.follow(a[0], a[1]);
            default:
                return x.count(a[0]);
        }
    }

    private static final class PlainCamera {
        final int x;
        final int y;
        final int reach;
        final int cost;
        final boolean narrow;
        final List<Integer> ways = new ArrayList<>();
        final boolean[] masked = new boolean[192];
        /** By cell and way: 0 not known yet, 1 no, 2 yes. */
        final byte[][] sees = new byte[192][8];
        final byte[][] shows = new byte[192][8];

        PlainCamera(int[] a) {
            x = a[0];
            y = a[1];
            reach = a[2];
            cost = a[3];
            narrow = a[4] == 1;
            ways.add(a[5]);
        }
    }

    private static final class Plain {
        final boolean[][] marks = new boolean[3][192];
        final List<PlainCamera> cameras = new ArrayList<>();
        final List<Integer> walk = new ArrayList<>();

        long call(int kind, int[] a) {
            switch (kind) {
                case 0:
                    return shut(a[0], a[1], a[2] == 1);
                case 1:
                case 2:
                    return put(marks[kind], a[0], a[1] == 1);
                case 3:
                    return camera(a);
                case 4:
                    return turn(a[0], a[1]);
                case 5:
                    return put(camera(a[0]).masked, a[1], a[2] == 1);
                case 6:
                    return sees(camera(a[0]), cell(a[1]), a[2]) ? 1 : 0;
                case 7:
                    return shows(camera(a[0]), cell(a[1]), a[2]) ? 1 : 0;
                case 8:
                    return serves(needs(), a[0], a[1] == 1) ? 1 : 0;
                case 9:
                    return cheapest(a[0] == 1);
                case 10:
                    return cost(a[0]);
                case 11:
                    return unseen(cell(a[0]), a[1]);
                case 12:
                    return blind(a[0]);
                case 13:
                    cell(a[0]);
                    if (walk.size() == 60) {
                        return -1;
                    }
                    walk.add(a[0]);
                    return walk.size();
                case 14:
                    int had = walk.size();
                    walk.clear();
                    return had;
                case 15:
                    return follow(a[0], a[1]);
                default:
                    return count(a[0]);
            }
        }

        static int cell(int cell) {
            if (cell < 0 || cell > 191) {
                throw new IndexOutOfBoundsException();
            }
            return cell;
        }

        PlainCamera camera(int number) {
            if (number < 0 || number >= cameras.size()) {
                throw new IndexOutOfBoundsException();
            }
            return cameras.get(number);
        }

        static int put(boolean[] row, int cell, boolean is) {
            boolean otherwise = row[cell(cell)] != is;
            row[cell] = is;
            return otherwise ? 1 : 0;
        }

        int shut(int from, int to, boolean is) {
            cell(from);
            cell(to);
            int changed = 0;
            for (int cell = 0; cell < 192; cell++) {
                boolean inX = (cell % 16 - from % 16) * (cell % 16 - to % 16) <= 0;
                boolean inY = (cell / 16 - from / 16) * (cell / 16 - to / 16) <= 0;
                if (inX && inY) {
                    changed += put(marks[0], cell, is);
                }
            }
            for (PlainCamera camera : cameras) {
                for (int cell = 0; cell < 192; cell++) {
                    Arrays.fill(camera.sees[cell], (byte) 0);
                    Arrays.fill(camera.shows[cell], (byte) 0);
                }
            }
            return changed;
        }

        int camera(int[] a) {
            boolean fits = a[0] >= 0 && a[0] <= 16 && a[1] >= 0 && a[1] <= 12 && a[2] >= 1 && a[2] <= 20
                    && a[3] >= 0 && a[3] <= 10000 && a[5] >= 0 && a[5] <= 7;
            if (!fits) {
                throw new IllegalArgumentException();
            }
            if (cameras.size() == 12) {
                throw new UnsupportedOperationException();
            }
            cameras.add(new PlainCamera(a));
            return cameras.size() - 1;
        }

        int turn(int number, int way) {
            PlainCamera camera = camera(number);
            if (way < 0 || way > 7) {
                throw new IllegalArgumentException();
            }
            if (camera.ways.size() == 8) {
                return -1;
            }
            camera.ways.add(way);
            return camera.ways.size();
        }

        boolean sees(PlainCamera c, int cell, int tick) {
            if (tick < 0 || c.masked[cell]) {
                return false;
            }
            int way = c.ways.get(tick % c.ways.size());
            if (c.sees[cell][way] == 0) {
                c.sees[cell][way] = (byte) (findSees(c, cell, way) ? 2 : 1);
            }
            return c.sees[cell][way] == 2;
        }

        boolean shows(PlainCamera c, int cell, int tick) {
            if (tick < 0 || c.masked[cell]) {
                return false;
            }
            int way = c.ways.get(tick % c.ways.size());
            if (c.shows[cell][way] == 0) {
                c.shows[cell][way] = (byte) (findShows(c, cell, way) ? 2 : 1);
            }
            return c.shows[cell][way] == 2;
        }

        boolean findSees(PlainCamera c, int cell, int way) {
            if (marks[0][cell] || walledIn(c)) {
                return false;
            }
            double[][] points = new double[5][];
            points[4] = new double[] {c.x, c.y};
            for (int k = 0; k < 4; k++) {
                int x = cell % 16 + k % 2;
                int y = cell / 16 + k / 2;
                if (!liesIn(c, x, y, way)) {
                    return false;
                }
                points[k] = new double[] {x, y};
            }
            List<double[]> hull = hull(points);
            for (int other = 0; other < 192; other++) {
                if (marks[0][other] && sharedArea(hull, other) > TINY) {
                    return false;
                }
            }
            return true;
        }

        boolean findShows(PlainCamera c, int cell, int way) {
            if (walledIn(c)) {
                return false;
            }
            for (int k = 0; k < 4; k++) {
                int x = cell % 16 + k % 2;
                int y = cell / 16 + k / 2;
                boolean free = liesIn(c, x, y, way);
                for (int other = 0; other < 192 && free; other++) {
                    free = !(marks[0][other] && sharedLength(c.x, c.y, x, y, other) > TINY);
                }
                if (free) {
                    return true;
                }
            }
            return false;
        }

        boolean walledIn(PlainCamera c) {
            for (int cell = 0; cell < 192; cell++) {
                double awayX = cell % 16 + 0.5 - c.x;
                double awayY = cell / 16 + 0.5 - c.y;
                if (Math.abs(awayX) < 1 && Math.abs(awayY) < 1 && !marks[0][cell]) {
                    return false;
                }
            }
            return true;
        }

        static boolean liesIn(PlainCamera c, int x, int y, int way) {
            if (x == c.x && y == c.y) {
                return true;
            }
            if (Math.hypot(x - c.x, y - c.y) > c.reach + TINY) {
                return false;
            }
            double angle = Math.toDegrees(Math.atan2(y - c.y, x - c.x));
            double from = angle - 45 * way;
            while (from < -180) {
                from += 360;
            }
            while (from >= 180) {
                from -= 360;
            }
            return from >= (c.narrow ? 0 : -45) - TINY && from <= 45 + TINY;
        }

        static double turnOf(double[] a, double[] b, double[] c) {
            return (b[0] - a[0]) * (c[1] - a[1]) - (b[1] - a[1]) * (c[0] - a[0]);
        }

        /** Gift wrapping. */
        static List<double[]> hull(double[][] points) {
            int start = 0;
            for (int i = 1; i < points.length; i++) {
                boolean less = points[i][0] < points[start][0]
                        || points[i][0] == points[start][0] && points[i][1] < points[start][1];
                start = less ? i : start;
            }
            List<double[]> hull = new ArrayList<>();
            double[] at = points[start];
            do {
                hull.add(at);
                double[] next = null;
                for (double[] p : points) {
                    if (p[0] == at[0] && p[1] == at[1]) {
                        continue;
                    }
                    double turn = next == null ? -1 : turnOf(at, next, p);
                    boolean farther = next != null && Math.hypot(p[0] - at[0], p[1] - at[1])
                            > Math.hypot(next[0] - at[0], next[1] - at[1]);
                    if (turn < 0 || turn == 0 && farther) {
                        next = p;
                    }
                }
                at = next;
            } while ((at[0] != points[start][0] || at[1] != points[start][1]) && hull.size() < 9);
            return hull;
        }

        static double sharedArea(List<double[]> hull, int cell) {
            List<double[]> rest = hull;
            rest = clip(rest, 0, cell % 16, 1);
            rest = clip(rest, 0, cell % 16 + 1, -1);
            rest = clip(rest, 1, cell / 16, 1);
            rest = clip(rest, 1, cell / 16 + 1, -1);
            double twice = 0;
            for (int i = 0; i < rest.size(); i++) {
                double[] a = rest.get(i);
                double[] b = rest.get((i + 1) % rest.size());
                twice += a[0] * b[1] - a[1] * b[0];
            }
            return Math.abs(twice) / 2;
        }

        static List<double[]> clip(List<double[]> figure, int axis, double bound, int sign) {
            List<double[]> rest = new ArrayList<>();
            for (int i = 0; i < figure.size(); i++) {
                double[] a = figure.get(i);
                double[] b = figure.get((i + 1) % figure.size());
                double da = (a[axis] - bound) * sign;
                double db = (b[axis] - bound) * sign;
                if (da >= 0) {
                    rest.add(a);
                }
                if (da > 0 && db < 0 || da < 0 && db > 0) {
                    double t = da / (da - db);
                    rest.add(new double[] {a[0] + t * (b[0] - a[0]), a[1] + t * (b[1] - a[1])});
                }
            }
            return rest;
        }

        /** How much of a line, as a part of it, is inside a cell, its rim left out. */
        static double sharedLength(int x, int y, int toX, int toY, int cell) {
            double[] span = {0, 1};
            boolean meets = narrow(span, x, toX, cell % 16) && narrow(span, y, toY, cell / 16);
            return meets ? span[1] - span[0] : 0;
        }

        static boolean narrow(double[] span, int from, int to, int low) {
            if (from == to) {
                return from > low && from < low + 1;
            }
            double a = (double) (low - from) / (to - from);
            double b = (double) (low + 1 - from) / (to - from);
            span[0] = Math.max(span[0], Math.min(a, b));
            span[1] = Math.min(span[1], Math.max(a, b));
            return span[0] < span[1];
        }

        boolean seen(int set, int cell, int tick) {
            for (int e = 0; e < cameras.size(); e++) {
                if ((set & 1 << e) != 0 && sees(cameras.get(e), cell, tick)) {
                    return true;
                }
            }
            return false;
        }

        /** The different sets of which one at least is asked for; and last those that show a window. */
        List<Integer> needs() {
            boolean[] asked = new boolean[4096];
            int showers = 0;
            for (int cell = 0; cell < 192; cell++) {
                for (int tick = 0; tick < 840; tick++) {
                    int seers = 0;
                    for (int e = 0; e < cameras.size(); e++) {
                        PlainCamera c = cameras.get(e);
                        if (marks[1][cell] && sees(c, cell, tick)) {
                            seers |= 1 << e;
                        }
                        if (marks[2][cell] && shows(c, cell, tick)) {
                            showers |= 1 << e;
                        }
                    }
                    if (marks[1][cell] && !marks[0][cell]) {
                        asked[seers] = true;
                    }
                    if (!marks[1][cell] && !marks[2][cell]) {
                        break;
                    }
                }
            }
            List<Integer> needs = new ArrayList<>();
            for (int seers = 0; seers < 4096; seers++) {
                if (asked[seers]) {
                    needs.add(seers);
                }
            }
            needs.add(showers);
            return needs;
        }

        boolean serves(List<Integer> needs, int set, boolean safe) {
            int there = set & (1 << cameras.size()) - 1;
            for (int i = 0; i < needs.size() - 1; i++) {
                if ((needs.get(i) & there) == 0) {
                    return false;
                }
            }
            if ((needs.get(needs.size() - 1) & there) != 0) {
                return false;
            }
            for (int e = 0; e < cameras.size() && safe; e++) {
                if ((there & 1 << e) != 0 && !serves(needs, there & ~(1 << e), false)) {
                    return false;
                }
            }
            return true;
        }

        int cheapest(boolean safe) {
            List<Integer> needs = needs();
            int best = -1;
            for (int set = (1 << cameras.size()) - 1; set >= 0; set--) {
                if (!serves(needs, set, safe)) {
                    continue;
                }
                long order = best == -1 ? 0 : cost(set) - cost(best);
                if (order == 0 && best != -1) {
                    order = Integer.bitCount(set) - Integer.bitCount(best);
                }
                best = order <= 0 ? set : best;
            }
            return best;
        }

        int cost(int set) {
            int sum = 0;
            for (int e = 0; e < cameras.size(); e++) {
                sum += (set & 1 << e) != 0 ? cameras.get(e).cost : 0;
            }
            return sum;
        }

        int unseen(int cell, int set) {
            boolean[] is = new boolean[840];
            boolean any = false;
            for (int tick = 0; tick < 840; tick++) {
                is[tick] = seen(set, cell, tick);
                any |= is[tick];
            }
            int longest = 0;
            for (int start = 0; start < 840 && any; start++) {
                int row = 0;
                while (!is[(start + row) % 840]) {
                    row++;
                }
                longest = Math.max(longest, row);
            }
            return any ? longest : -1;
        }

        int blind(int set) {
            int sum = 0;
            for (int cell = 0; cell < 192; cell++) {
                boolean any = marks[0][cell];
                for (int tick = 0; tick < 840 && !any; tick++) {
                    any = seen(set, cell, tick);
                }
                sum += any ? 0 : 1;
            }
            return sum;
        }

        int follow(int set, int what) {
            if (what < 0 || what > 3) {
                throw new NoSuchElementException();
            }
            List<Integer> followers = new ArrayList<>();
            StringBuilder steps = new StringBuilder();
            for (int tick = 0; tick < walk.size(); tick++) {
                int cell = walk.get(tick);
                steps.append(seen(set, cell, tick) ? 's' : '.');
                if (!seen(set, cell, tick)) {
                    continue;
                }
                int latest = followers.isEmpty() ? -1 : followers.get(followers.size() - 1);
                int next = latest;
                for (int e = cameras.size() - 1; e >= 0; e--) {
                    boolean goesOn = latest != -1 && sees(cameras.get(latest), cell, tick);
                    if (!goesOn && (set & 1 << e) != 0 && sees(cameras.get(e), cell, tick)) {
                        next = e;
                    }
                }
                followers.add(next);
            }
            int changes = 0;
            for (int i = 1; i < followers.size(); i++) {
                changes += followers.get(i).equals(followers.get(i - 1)) ? 0 : 1;
            }
            int lost = 0;
            for (String row : steps.toString().split("s")) {
                lost = Math.max(lost, row.length());
            }
            int[] answers = {followers.size(), lost, changes, followers.isEmpty() ? -1 : followers.get(0)};
            return answers[what];
        }

        int count(int what) {
            if (what < 0 || what > 4) {
                return -1;
            }
            if (what >= 3) {
                return what == 3 ? cameras.size() : walk.size();
            }
            int sum = 0;
            for (boolean mark : marks[what]) {
                sum += mark ? 1 : 0;
            }
            return sum;
        }
    }
}
