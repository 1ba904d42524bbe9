/** The sentences of "Terms" about what a CAMERA SEES and SHOWS, at their bounds, each with a test of its own. */
public final class FloorEyesSights extends Checks {
    private static final String FIGURE = "no SHUT CELL has anything of its inside (its rim left out) in common "
            + "with the inside of the least convex figure that has the CAMERA's corner and the CELL's four corners.";

    public static void main(String[] args) {
        readDocument(args);
        wideByEvenWays();
        wideByOddWays();
        ownCorner();
        narrowByEvenWays();
        narrowByOddWays();
        narrowSevenAndNought();
        notShut();
        notMasked();
        allFourCorners();
        exactDistance();
        rimOfWallsNearby();
        rimOfWallsFarAway();
        wallsTogether();
        showsByOneCorner();
        showsByTheSameCorner();
        showsByTheExactDistance();
        showsPastEachWall();
        showsAlongRims();
        showsShutCells();
        masksOfWhatIsShown();
        walledIn();
        walledInAtEdges();
        end("sights hold at their bounds");
    }

    /** The cell at an offset from the corner (8, 6), by so many quarters of a turn round it towards y growing. */
    private static int around(int dx, int dy, int quarters) {
        int offX = dx;
        int offY = dy;
        for (int i = 0; i < quarters; i++) {
            int was = offX;
            offX = -offY - 1;
            offY = was;
        }
        return cell(8 + offX, 6 + offY);
    }

    /** By a WAY and those at right angles to it: which of the cells around are seen and shown. */
    private static void dueAround(boolean narrow, int way, int[][] seen, int[][] unseen, int[][] shown, int[][] hidden) {
        for (int quarters = 0; quarters < 4; quarters++) {
            FloorEyes x = new FloorEyes();
            x.camera(8, 6, 20, 1, narrow, way + 2 * quarters & 7);
            dueSeen(x, seen, quarters, true);
            dueSeen(x, unseen, quarters, false);
            dueShown(x, shown, quarters, true);
            dueShown(x, hidden, quarters, false);
        }
    }

    private static void dueSeen(FloorEyes x, int[][] cells, int quarters, boolean is) {
        for (int[] one : cells) {
            String where = one[0] + ", " + one[1] + " turned by " + quarters + " quarters";
            due("sees " + where, x.sees(0, around(one[0], one[1], quarters), 0), is);
        }
    }

    private static void dueShown(FloorEyes x, int[][] cells, int quarters, boolean is) {
        for (int[] one : cells) {
            String where = one[0] + ", " + one[1] + " turned by " + quarters + " quarters";
            due("shows " + where, x.shows(0, around(one[0], one[1], quarters), 0), is);
        }
    }

    private static void wideByEvenWays() {
        sentence("WIDE 90: the corners whose direction from it is at most 45 degrees from the WAY");
        dueAround(false, 0,
                new int[][] {{1, 0}, {1, -1}, {2, 1}, {2, -2}, {4, 3}, {4, -4}},
                new int[][] {{0, 0}, {0, -1}, {1, 1}, {1, -2}, {-2, 0}, {3, 3}},
                new int[][] {{0, 1}, {0, -2}, {1, 2}, {1, -3}, {3, 4}},
                new int[][] {{0, 2}, {0, -3}, {1, 3}, {1, -4}, {-2, 0}, {-2, -1}});
    }

    private static void wideByOddWays() {
        sentence("WIDE 90: the corners whose direction from it is at most 45 degrees from the WAY");
        dueAround(false, 1,
                new int[][] {{0, 0}, {3, 0}, {0, 3}, {4, 4}},
                new int[][] {{-1, 0}, {0, -1}, {-1, 3}, {3, -1}, {-1, -1}},
                new int[][] {{-1, 2}, {2, -1}, {-1, 4}, {4, -1}},
                new int[][] {{-2, 2}, {2, -2}, {-2, -1}, {-1, -2}, {-2, 0}, {0, -2}});
    }

    private static void ownCorner() {
        sentence("the CAMERA's own corner too");
        for (int way = 0; way < 8; way++) {
            FloorEyes x = new FloorEyes();
            x.camera(8, 6, 1, 1, false, way);
            x.camera(8, 6, 1, 1, true, way);
            for (int quarters = 0; quarters < 4; quarters++) {
                int near = around(0, 0, quarters);
                due("way " + way + ", wide, a cell at it", x.shows(0, near, 0), true);
                // Both ways that bound a narrow one begin at the camera's corner.
                due("way " + way + ", narrow, a cell at it", x.shows(1, near, 0), true);
            }
        }
        FloorEyes x = new FloorEyes();
        x.camera(8, 6, 2, 1, false, 1);
        due("a cell is seen that has it", x.sees(0, cell(8, 6), 0), true);
    }

    private static void narrowByEvenWays() {
        sentence("WIDE 45: those between the WAY and the next one (7: and 0), both too");
        dueAround(true, 0,
                new int[][] {{1, 0}, {2, 0}, {2, 1}, {4, 3}},
                new int[][] {{0, 0}, {1, 1}, {1, -1}, {3, 3}, {0, 1}},
                new int[][] {{0, 1}, {1, 2}, {3, -1}, {4, -1}},
                new int[][] {{0, 2}, {1, 3}, {3, -2}, {1, -2}, {-2, 0}});
    }

    private static void narrowByOddWays() {
        sentence("WIDE 45: those between the WAY and the next one (7: and 0), both too");
        dueAround(true, 1,
                new int[][] {{0, 1}, {1, 2}, {3, 4}},
                new int[][] {{0, 0}, {1, 1}, {-1, 1}, {1, 0}, {3, 3}},
                new int[][] {{1, 0}, {2, 1}, {-1, 3}, {-1, 1}},
                new int[][] {{2, 0}, {3, 1}, {-2, 3}, {-2, 1}, {0, -2}});
    }

    private static void narrowSevenAndNought() {
        sentence("(7: and 0)");
        FloorEyes x = new FloorEyes();
        x.camera(8, 6, 20, 1, true, 7);
        due("between both", x.sees(0, cell(11, 4), 0), true);
        due("with a side on 0", x.sees(0, cell(11, 5), 0), true);
        due("with a corner on 7", x.sees(0, cell(10, 4), 0), true);
        due("beyond 0", x.sees(0, cell(11, 6), 0), false);
        due("on 0 is shown", x.shows(0, cell(11, 6), 0), true);
        due("beyond 0 is not shown", x.shows(0, cell(11, 7), 0), false);
        due("on 7 is shown", x.shows(0, cell(10, 2), 0), true);
        due("beyond 7 is not shown", x.shows(0, cell(9, 2), 0), false);
    }

    private static void notShut() {
        sentence("if that is not SHUT and not MASKED for it");
        FloorEyes x = new FloorEyes();
        x.camera(0, 0, 20, 1, false, 1);
        due("open", x.sees(0, 191, 0), true);
        x.shut(191, 191, true);
        due("shut", x.sees(0, 191, 0), false);
        x.shut(191, 191, false);
        due("open again", x.sees(0, 191, 0), true);
    }

    private static void notMasked() {
        sentence("not MASKED for it");
        FloorEyes x = new FloorEyes();
        x.camera(0, 0, 20, 1, false, 1);
        x.camera(0, 0, 20, 1, false, 1);
        x.mask(1, 191, true);
        due("for another", x.sees(0, 191, 0), true);
        due("for it", x.sees(1, 191, 0), false);
        due("its neighbour", x.sees(1, 190, 0), true);
        x.mask(1, 190, true);
        due("a masked cell is no wall", x.sees(1, 189, 0), true);
        x.mask(1, 191, false);
        due("no more", x.sees(1, 191, 0), true);
    }

    private static void allFourCorners() {
        sentence("all four of its corners lie in its WAY and not farther from it than REACH");
        FloorEyes x = new FloorEyes();
        x.camera(8, 6, 5, 1, false, 1);
        x.camera(8, 6, 5, 1, false, 3);
        x.camera(8, 6, 5, 1, false, 5);
        x.camera(8, 6, 5, 1, false, 7);
        for (int quarters = 0; quarters < 4; quarters++) {
            due("the last corner is 5 away", x.sees(quarters, around(3, 2, quarters), 0), true);
            due("the last corner alone is farther", x.sees(quarters, around(3, 3, quarters), 0), false);
            due("two corners are farther", x.sees(quarters, around(4, 0, quarters), 0), false);
        }
        FloorEyes y = new FloorEyes();
        y.camera(8, 6, 20, 1, false, 0);
        y.turn(0, 2);
        y.turn(0, 4);
        y.turn(0, 6);
        for (int quarters = 0; quarters < 4; quarters++) {
            due("a corner alone is beyond 45 degrees", y.sees(0, around(1, 1, quarters), quarters), false);
            due("a corner alone is beyond -45 degrees", y.sees(0, around(1, -2, quarters), quarters), false);
            due("three corners lie in it, one of them its own", y.sees(0, around(0, 0, quarters), quarters), false);
        }
    }

    private static void exactDistance() {
        sentence("not farther from it than REACH (by the exact distance)");
        int[][] triples = {{3, 4, 5}, {4, 3, 5}, {6, 8, 10}, {8, 6, 10}, {5, 12, 13}, {12, 5, 13}, {9, 12, 15},
            {12, 9, 15}, {15, 8, 17}, {16, 12, 20}};
        for (int[] triple : triples) {
            FloorEyes x = new FloorEyes();
            int cell = cell(triple[0] - 1, triple[1] - 1);
            x.camera(0, 0, triple[2], 1, false, 1);
            x.camera(0, 0, triple[2] - 1, 1, false, 1);
            due("just " + triple[2] + " away", x.sees(0, cell, 0), true);
            due("farther than " + (triple[2] - 1), x.sees(1, cell, 0), false);
        }
        int[][] beyond = {{1, 1, 1}, {2, 1, 2}, {3, 1, 3}, {4, 1, 4}, {5, 1, 5}, {15, 1, 15}, {5, 5, 7},
            {12, 12, 16}, {16, 11, 19}};
        for (int[] one : beyond) {
            FloorEyes x = new FloorEyes();
            int cell = cell(one[0] - 1, one[1] - 1);
            x.camera(0, 0, one[2], 1, false, 1);
            x.camera(0, 0, one[2] + 1, 1, false, 1);
            due("a part more than " + one[2] + " away", x.sees(0, cell, 0), false);
            due("nearer than " + (one[2] + 1), x.sees(1, cell, 0), true);
        }
    }

    /** A cell near the corner (8, 6), by one of eight ways to turn and to mirror the floor round it. */
    private static int near(int dx, int dy, int turn) {
        return turn < 4 ? around(dx, dy, turn) : around(dy, dx, turn - 4);
    }

    /** Whether a camera at (8, 6) sees or shows a cell when one other is shut; it looks by WAY 1 at turn 0. */
    private static boolean nearStands(int[] wall, int[] target, int reach, int turn, boolean byShowing) {
        FloorEyes x = new FloorEyes();
        x.camera(8, 6, reach, 1, false, 1 + 2 * turn & 7);
        int shut = near(wall[0], wall[1], turn);
        x.shut(shut, shut, true);
        int cell = near(target[0], target[1], turn);
        return byShowing ? x.shows(0, cell, 0) : x.sees(0, cell, 0);
    }

    /** For each cell round (8, 6): whether it is in the way just if it is one of those that are named. */
    private static void dueInTheWay(int[][] inTheWay, int[] target, int reach, boolean byShowing) {
        for (int turn = 0; turn < 8; turn++) {
            for (int dy = -6; dy < 6; dy++) {
                for (int dx = -6; dx < 6; dx++) {
                    boolean is = nearStands(new int[] {dx, dy}, target, reach, turn, byShowing);
                    due("turn " + turn + ", a wall at " + dx + ", " + dy, is, !isOne(dx, dy, inTheWay));
                }
            }
        }
    }

    private static boolean isOne(int x, int y, int[][] cells) {
        for (int[] one : cells) {
            if (one[0] == x && one[1] == y) {
                return true;
            }
        }
        return false;
    }

    private static void rimOfWallsNearby() {
        sentence(FIGURE);
        // The figure of (0, 0), (3, 1), (3, 2) and (2, 2): the rims of (0, 1), (3, 0), (3, 1), (1, 2), (2, 2) touch it.
        dueInTheWay(new int[][] {{0, 0}, {1, 0}, {2, 0}, {1, 1}, {2, 1}}, new int[] {2, 1}, 20, false);
        // Straight ahead the figure is the row of cells itself.
        dueInTheWay(new int[][] {{0, 0}, {1, 0}, {2, 0}, {3, 0}}, new int[] {3, 0}, 20, false);
        // At its own corner it is the cell itself.
        dueInTheWay(new int[][] {{0, 0}}, new int[] {0, 0}, 20, false);
        // Along the diagonal it is the figure of (0, 0), (3, 2), (3, 3) and (2, 3).
        dueInTheWay(new int[][] {{0, 0}, {1, 0}, {0, 1}, {1, 1}, {2, 1}, {1, 2}, {2, 2}}, new int[] {2, 2}, 20, false);
    }

    /** Whether the last cell is wholly seen from the corner across the floor when one other is shut. */
    private static boolean farStands(int wallX, int wallY, int flip) {
        FloorEyes x = new FloorEyes();
        boolean flipX = (flip & 1) != 0;
        boolean flipY = (flip & 2) != 0;
        int way = flipX ? flipY ? 5 : 3 : flipY ? 7 : 1;
        x.camera(flipX ? 16 : 0, flipY ? 12 : 0, 20, 1, false, way);
        int wall = cell(flipX ? 15 - wallX : wallX, flipY ? 11 - wallY : wallY);
        x.shut(wall, wall, true);
        return x.sees(0, cell(flipX ? 0 : 15, flipY ? 0 : 11), 0);
    }

    private static void rimOfWallsFarAway() {
        sentence(FIGURE);
        // Seen from (0, 0), the last cell lies between the lines to (16, 11) and to (15, 12).
        for (int flip = 0; flip < 4; flip++) {
            due("(3, 2) is just outside the line to (16, 11)", farStands(3, 1, flip), true);
            due("(6, 4) is just outside the line to (16, 11)", farStands(6, 3, flip), true);
            due("(13, 9) is just inside the line to (16, 11)", farStands(13, 8, flip), false);
            due("(10, 7) is just inside the line to (16, 11)", farStands(10, 6, flip), false);
            due("(5, 4) is on the line to (15, 12)", farStands(4, 4, flip), true);
            due("(10, 8) is on the line to (15, 12)", farStands(9, 8, flip), true);
            due("(4, 3) is just inside the line to (15, 12)", farStands(3, 3, flip), false);
            due("(9, 7) is just inside the line to (15, 12)", farStands(8, 7, flip), false);
            due("beside the cell, by y", farStands(15, 10, flip), false);
            due("beside the cell, by x", farStands(14, 11, flip), false);
            due("in the corners aside", farStands(15, 0, flip) && farStands(0, 11, flip), true);
        }
    }

    private static void wallsTogether() {
        sentence(FIGURE);
        FloorEyes x = new FloorEyes();
        x.camera(0, 0, 20, 1, false, 1);
        x.shut(0, 191, true);
        int[][] open = {{0, 0}, {1, 0}, {2, 0}, {1, 1}, {2, 1}};
        for (int[] one : open) {
            due("a part is still shut", x.sees(0, cell(2, 1), 0), false);
            x.shut(cell(one[0], one[1]), cell(one[0], one[1]), false);
        }
        due("all others may be shut", x.sees(0, cell(2, 1), 0), true);
        due("of these (1, 1) is not seen, for (0, 1) is shut", x.blind(1), 1);
        due("it", x.sees(0, cell(1, 1), 0), false);
        x.shut(cell(0, 1), cell(0, 1), false);
        due("it, when that is open", x.sees(0, cell(1, 1), 0), true);
    }

    private static void showsByOneCorner() {
        sentence("of the CELL's corners, one lies in its WAY, not farther than REACH");
        FloorEyes x = new FloorEyes();
        for (int way = 1; way < 8; way += 2) {
            x.camera(8, 6, 5, 1, false, way);
        }
        for (int quarters = 0; quarters < 4; quarters++) {
            due("one corner is 5 away", x.shows(quarters, around(3, 4, quarters), 0), true);
            due("one corner is 5 away", x.shows(quarters, around(4, 3, quarters), 0), true);
            due("one corner is 5 away, straight ahead", x.shows(quarters, around(0, 5, quarters), 0), true);
            due("none is within 5", x.shows(quarters, around(4, 4, quarters), 0), false);
            due("none is within 5", x.shows(quarters, around(5, 1, quarters), 0), false);
        }
    }

    private static void showsByTheSameCorner() {
        sentence("one lies in its WAY, not farther than REACH, and the line from the CAMERA to it");
        FloorEyes x = new FloorEyes();
        x.camera(8, 6, 1, 1, true, 0);
        due("one is near, another one lies in the WAY", x.shows(0, cell(8, 7), 0), false);
        x.camera(8, 6, 2, 1, true, 0);
        due("with more reach", x.shows(1, cell(8, 7), 0), true);
        x.shut(cell(8, 6), cell(8, 6), true);
        due("the line to (8, 7) is free, but (9, 7) lies in the WAY", x.shows(1, cell(8, 7), 0), false);
        x.turn(1, 1);
        due("by another WAY", x.shows(1, cell(8, 7), 1), true);
    }

    private static void showsByTheExactDistance() {
        sentence("one lies in its WAY, not farther than REACH");
        int[][] nearest = {{3, 4, 5}, {4, 3, 5}, {6, 8, 10}, {5, 11, 13}, {12, 5, 13}, {15, 8, 17}, {1, 1, 2}, {5, 5, 8}};
        for (int[] one : nearest) {
            FloorEyes x = new FloorEyes();
            x.camera(0, 0, one[2], 1, false, 1);
            x.camera(0, 0, one[2] - 1, 1, false, 1);
            due("not farther than " + one[2], x.shows(0, cell(one[0], one[1]), 0), true);
            due("farther than " + (one[2] - 1), x.shows(1, cell(one[0], one[1]), 0), false);
        }
    }

    private static void showsPastEachWall() {
        sentence("(both ends too) has nothing in common with the inside of a SHUT CELL");
        // With a reach of 5 the cell (3, 4) is shown by its corner (3, 4) alone, on whose line these lie.
        int[][] inTheWay = {{0, 0}, {0, 1}, {1, 1}, {1, 2}, {2, 2}, {2, 3}};
        dueInTheWay(inTheWay, new int[] {3, 4}, 5, true);
        // Straight ahead the line runs along rims alone.
        dueInTheWay(new int[][] {}, new int[] {0, 5}, 5, true);
        // The diagonal runs through insides and through corners.
        dueInTheWay(new int[][] {{0, 0}, {1, 1}, {2, 2}}, new int[] {3, 3}, 5, true);
        FloorEyes x = new FloorEyes();
        x.camera(0, 0, 5, 1, false, 1);
        x.shut(0, 191, true);
        for (int[] one : inTheWay) {
            due("a part is still shut", x.shows(0, cell(3, 4), 0), false);
            x.shut(cell(one[0], one[1]), cell(one[0], one[1]), false);
        }
        due("all others may be shut", x.shows(0, cell(3, 4), 0), true);
    }

    private static void showsAlongRims() {
        sentence("has nothing in common with the inside of a SHUT CELL");
        FloorEyes x = new FloorEyes();
        x.camera(0, 1, 20, 1, false, 0);
        x.shut(cell(1, 0), cell(15, 1), true);
        due("along the seam of two walls", x.shows(0, cell(15, 0), 0), true);
        due("which is no room to see", x.sees(0, cell(15, 0), 0), false);
        due("beside the seam", x.shows(0, cell(9, 3), 0), false);
        FloorEyes y = new FloorEyes();
        y.camera(0, 0, 20, 1, false, 1);
        y.shut(cell(1, 0), cell(1, 0), true);
        y.shut(cell(0, 1), cell(0, 1), true);
        due("between two pillars that touch at (1, 1)", y.shows(0, cell(9, 9), 0), true);
        due("which are no room to see", y.sees(0, cell(9, 9), 0), false);
        due("beside the line between them", y.shows(0, cell(9, 7), 0), false);
    }

    private static void showsShutCells() {
        sentence("It SHOWS a CELL at a tick, if, of the CELL's corners, one lies in its WAY");
        FloorEyes x = new FloorEyes();
        x.camera(0, 0, 20, 1, false, 1);
        x.shut(cell(4, 4), cell(4, 4), true);
        due("a shut cell is not seen", x.sees(0, cell(4, 4), 0), false);
        due("its near corners are shown", x.shows(0, cell(4, 4), 0), true);
        x.shut(cell(3, 3), cell(5, 5), true);
        due("walls all round it", x.shows(0, cell(4, 4), 0), false);
    }

    private static void masksOfWhatIsShown() {
        sentence("(MASKED counts for nothing here, but for a CELL itself: a MASKED one it does not SHOW.)");
        FloorEyes x = new FloorEyes();
        x.camera(0, 0, 20, 1, false, 1);
        x.camera(0, 0, 20, 1, false, 1);
        for (int d = 0; d < 5; d++) {
            x.mask(0, cell(d, d), true);
        }
        x.mask(0, cell(0, 1), true);
        x.mask(0, cell(1, 0), true);
        due("behind masked cells", x.shows(0, cell(5, 5), 0), true);
        due("masked", x.shows(0, cell(4, 4), 0), false);
        due("masked, at its own corner", x.shows(0, 0, 0), false);
        due("by another", x.shows(1, cell(4, 4), 0), true);
        x.mask(0, cell(4, 4), false);
        due("no more", x.shows(0, cell(4, 4), 0), true);
    }

    private static void walledIn() {
        sentence("A CAMERA that is at a corner all of whose CELLS (those that there are) are SHUT SEES and SHOWS nothing.");
        FloorEyes x = new FloorEyes();
        x.camera(8, 6, 20, 1, false, 0);
        x.camera(9, 7, 20, 1, false, 0);
        x.shut(cell(7, 5), cell(8, 6), true);
        int shown = 0;
        for (int cell = 0; cell < 192; cell++) {
            shown += x.shows(0, cell, 0) ? 1 : 0;
        }
        due("it shows", shown, 0);
        due("it sees", x.blind(1), 188);
        due("another one at the wall shows", x.shows(1, cell(8, 6), 0), true);
        due("another one at the wall sees", x.sees(1, cell(10, 7), 0), true);
        for (int[] one : new int[][] {{7, 5}, {8, 5}, {7, 6}, {8, 6}}) {
            x.shut(cell(one[0], one[1]), cell(one[0], one[1]), false);
            due("one of the four is open: it shows", x.shows(0, cell(9, 6), 0), true);
            x.shut(cell(one[0], one[1]), cell(one[0], one[1]), true);
            due("shut again", x.shows(0, cell(9, 6), 0), false);
        }
    }

    private static void walledInAtEdges() {
        sentence("(those that there are)");
        int[][] corners = {{0, 0}, {16, 0}, {0, 12}, {16, 12}, {8, 0}, {8, 12}, {0, 6}, {16, 6}};
        for (int[] corner : corners) {
            int left = Math.max(corner[0] - 1, 0);
            int right = Math.min(corner[0], 15);
            int top = Math.max(corner[1] - 1, 0);
            int bottom = Math.min(corner[1], 11);
            String where = "at " + corner[0] + ", " + corner[1];
            FloorEyes x = new FloorEyes();
            x.camera(corner[0], corner[1], 20, 1, false, 0);
            due(where + " it shows", x.shows(0, cell(left, top), 0), true);
            x.shut(cell(left, top), cell(right, bottom), true);
            due(where + " walled in", x.shows(0, cell(left, top), 0), false);
            due(where + " walled in", x.shows(0, cell(right, bottom), 0), false);
            x.shut(cell(right, bottom), cell(right, bottom), false);
            due(where + " one is open", x.shows(0, cell(left, top), 0), true);
        }
    }
}
