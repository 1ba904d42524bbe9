/**
 * What is SEEN and SHOWN, from every corner, past a wall on every cell, and by every WAY and REACH, against exact
 * whole numbers. The class looks for a line that parts a wall from what is looked at; here the differences of
 * their points are taken: two figures share something inside just if the origin is inside of all these differences.
 */
public final class FloorEyesEverySight extends Checks {
    private static final int[] WAY_X = {1, 1, 0, -1, -1, -1, 0, 1};
    private static final int[] WAY_Y = {0, 1, 1, 1, 0, -1, -1, -1};

    private static final int[] awayX = new int[20];
    private static final int[] awayY = new int[20];

    public static void main(String[] args) {
        readDocument(args);
        everyWall();
        everyWayAndReach();
        end("every sight is exact");
    }

    private static void everyWall() {
        sentence("no SHUT CELL has anything of its inside (its rim left out) in common with the inside of the least "
                + "convex figure that has the CAMERA's corner and the CELL's four corners.");
        sentence("the line from the CAMERA to it (both ends too) has nothing in common with the inside of a SHUT CELL");
        for (int x = 0; x <= 16; x++) {
            for (int y = 0; y <= 12; y++) {
                for (int wall = 0; wall < 192; wall++) {
                    dueBehind(x, y, wall);
                }
            }
        }
    }

    /** All cells from one corner, each by one of the ways that it lies in, past one wall. */
    private static void dueBehind(int x, int y, int wall) {
        FloorEyes floor = new FloorEyes();
        floor.camera(x, y, 20, 1, false, 0);
        for (int way = 1; way < 8; way++) {
            floor.turn(0, way);
        }
        floor.shut(wall, wall, true);
        boolean dark = walledInBy(x, y, wall);
        for (int cell = 0; cell < 192; cell++) {
            int way = wayThatHolds(x, y, cell);
            boolean seen = !dark && cell != wall && allLieIn(x, y, cell, way, 20, false) && !figureMeets(x, y, cell, wall);
            boolean shown = !dark && oneIsShown(x, y, cell, way, wall);
            if (floor.sees(0, cell, way) != seen || floor.shows(0, cell, way) != shown) {
                String where = "from (" + x + ", " + y + "), wall " + wall + ", cell " + cell + ", way " + way;
                due(where + ", sees", floor.sees(0, cell, way), seen);
                due(where + ", shows", floor.shows(0, cell, way), shown);
            }
        }
    }

    private static boolean walledInBy(int x, int y, int wall) {
        boolean atFloorsCorner = (x == 0 || x == 16) && (y == 0 || y == 12);
        return atFloorsCorner && holdsCorner(wall, x, y);
    }

    private static boolean holdsCorner(int cell, int x, int y) {
        int dx = x - cell % 16;
        int dy = y - cell / 16;
        return dx >= 0 && dx <= 1 && dy >= 0 && dy <= 1;
    }

    /** A way in which all corners of a cell lie, or one, if there is none for all. */
    private static int wayThatHolds(int x, int y, int cell) {
        for (int way = 0; way < 8; way++) {
            if (allLieIn(x, y, cell, way, 20, false)) {
                return way;
            }
        }
        return cell % 8;
    }

    private static boolean liesIn(int dx, int dy, int way, int reach, boolean narrow) {
        if (dx * dx + dy * dy > reach * reach) {
            return false;
        }
        int first = narrow ? way : (way + 7) % 8;
        int last = (way + 1) % 8;
        return WAY_X[first] * dy - WAY_Y[first] * dx >= 0 && dx * WAY_Y[last] - dy * WAY_X[last] >= 0
                && dx * WAY_X[way] + dy * WAY_Y[way] >= 0;
    }

    private static boolean allLieIn(int x, int y, int cell, int way, int reach, boolean narrow) {
        boolean all = true;
        for (int corner = 0; corner < 4; corner++) {
            all &= liesIn(cornerX(cell, corner) - x, cornerY(cell, corner) - y, way, reach, narrow);
        }
        return all;
    }

    private static boolean oneLiesIn(int x, int y, int cell, int way, int reach, boolean narrow) {
        boolean one = false;
        for (int corner = 0; corner < 4; corner++) {
            one |= liesIn(cornerX(cell, corner) - x, cornerY(cell, corner) - y, way, reach, narrow);
        }
        return one;
    }

    private static boolean oneIsShown(int x, int y, int cell, int way, int wall) {
        for (int corner = 0; corner < 4; corner++) {
            int toX = cornerX(cell, corner);
            int toY = cornerY(cell, corner);
            if (liesIn(toX - x, toY - y, way, 20, false) && !lineMeets(x, y, toX, toY, wall)) {
                return true;
            }
        }
        return false;
    }

    private static int cornerX(int cell, int corner) {
        return cell % 16 + corner % 2;
    }

    private static int cornerY(int cell, int corner) {
        return cell / 16 + corner / 2;
    }

    private static boolean figureMeets(int x, int y, int cell, int wall) {
        int used = putDifferences(0, x, y, wall);
        for (int corner = 0; corner < 4; corner++) {
            used = putDifferences(used, cornerX(cell, corner), cornerY(cell, corner), wall);
        }
        return isOriginInside(used);
    }

    private static boolean lineMeets(int x, int y, int toX, int toY, int wall) {
        return isOriginInside(putDifferences(putDifferences(0, x, y, wall), toX, toY, wall));
    }

    private static int putDifferences(int used, int x, int y, int wall) {
        for (int corner = 0; corner < 4; corner++) {
            awayX[used + corner] = x - cornerX(wall, corner);
            awayY[used + corner] = y - cornerY(wall, corner);
        }
        return used + 4;
    }

    /** It is, if on both sides of the line through it and each other point there are points. */
    private static boolean isOriginInside(int used) {
        for (int i = 0; i < used; i++) {
            if (awayX[i] == 0 && awayY[i] == 0) {
                continue;
            }
            boolean left = false;
            boolean right = false;
            for (int k = 0; k < used && !(left && right); k++) {
                int side = awayX[i] * awayY[k] - awayY[i] * awayX[k];
                left |= side > 0;
                right |= side < 0;
            }
            if (!left || !right) {
                return false;
            }
        }
        return true;
    }

    private static void everyWayAndReach() {
        sentence("What lies in a WAY of a CAMERA at (p, q)");
        sentence("not farther from it than REACH (by the exact distance)");
        int[][] places = {{0, 0}, {16, 0}, {16, 12}, {0, 12}, {8, 6}, {7, 0}, {0, 5}, {3, 10}};
        for (int[] place : places) {
            for (int reach = 1; reach <= 20; reach++) {
                for (int way = 0; way < 8; way++) {
                    dueWithin(place[0], place[1], way, reach, true);
                    dueWithin(place[0], place[1], way, reach, false);
                }
            }
        }
    }

    private static void dueWithin(int x, int y, int way, int reach, boolean narrow) {
        FloorEyes floor = new FloorEyes();
        floor.camera(x, y, reach, 1, narrow, way);
        String where = (narrow ? "narrow" : "wide") + " from (" + x + ", " + y + "), way " + way + ", reach " + reach;
        int unseen = 0;
        for (int cell = 0; cell < 192; cell++) {
            boolean seen = allLieIn(x, y, cell, way, reach, narrow);
            due(where + ", sees " + cell, floor.sees(0, cell, 0), seen);
            due(where + ", shows " + cell, floor.shows(0, cell, 0), oneLiesIn(x, y, cell, way, reach, narrow));
            unseen += seen ? 0 : 1;
        }
        due(where + ", blind", floor.blind(1), unseen);
    }
}
