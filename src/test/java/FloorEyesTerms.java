/**
 * The sentences of "What it is" and of "Terms" that name a boundary case, each with a test of its own.
 * The sentences about walls, sets, ticks and walks stand in FloorEyesSights, FloorEyesSets and FloorEyesWalks.
 */
public final class FloorEyesTerms extends Checks {
    public static void main(String[] args) {
        readDocument(args);
        allCallsOfAnObject();
        aLongWalkOfCalls();
        oneCallAgainAndAgain();
        numbersOfCells();
        outermostCorners();
        nothingIsShutAtFirst();
        nothingIsToldAtFirst();
        shutAndToldAndPrivateAtOnce();
        twelveCameras();
        reach();
        cost();
        rounds();
        ways();
        exceptionToldFirst();
        noSuchCell();
        noSuchCamera();
        end("the terms hold at their bounds");
    }

    /** Twelve cameras with rounds of 8 at (0, 0) that see all; the later ones cost less. */
    private static int fillWithEyes(FloorEyes x) {
        int calls = 0;
        for (int e = 0; e < 12; e++) {
            x.camera(0, 0, 20, 100 - e, false, 1);
            calls++;
            for (int way = 1; way < 8; way++) {
                x.turn(e, 1);
                calls++;
            }
        }
        return calls;
    }

    private static void allCallsOfAnObject() {
        sentence("An object is used for at most 512 calls after it has been made");
        FloorEyes x = new FloorEyes();
        int calls = fillWithEyes(x);
        due("tell", x.tell(191, true), true);
        calls++;
        while (calls < 512) {
            due("shut, call " + calls, x.shut(0, 0, true), 1);
            due("blind, call " + calls, x.blind(-1), 191);
            due("cheapest of none, call " + calls, x.cheapest(false), NONE);
            due("opened, call " + calls, x.shut(0, 0, false), 1);
            due("cheapest, call " + calls, x.cheapest(true), 2048 + 1024);
            calls += 5;
        }
        due("calls", calls, 512);
    }

    private static void aLongWalkOfCalls() {
        sentence("An object is used for at most 512 calls after it has been made");
        FloorEyes x = new FloorEyes();
        x.camera(0, 0, 20, 1, false, 1);
        int calls = 1;
        for (int round = 0; round < 8; round++) {
            for (int has = 1; has <= 60; has++) {
                due("step, call " + calls, x.step(191), has);
                calls++;
            }
            due("follow, call " + calls, x.follow(1, 0), 60);
            due("stand, call " + calls, x.stand(), 60);
            calls += 2;
        }
        while (calls < 511) {
            due("blind, call " + calls, x.blind(1), 0);
            calls++;
        }
        due("the 512th call", x.sees(0, 191, 0), true);
    }

    /** What one of the calls that may be made without end answers at each time. */
    private static long again(FloorEyes x, int kind, boolean odd) {
        switch (kind) {
            case 0:
                return x.shut(0, 191, odd);
            case 1:
                return x.tell(7, odd) ? 1 : 0;
            case 2:
                return x.hide(7, odd) ? 1 : 0;
            case 3:
                return x.mask(0, 7, odd) ? 1 : 0;
            case 4:
                return x.turn(0, 1);
            case 5:
                return x.sees(0, 191, 0) ? 1 : 0;
            case 6:
                return x.shows(0, 191, 0) ? 1 : 0;
            case 7:
                return x.serves(1, false) ? 1 : 0;
            case 8:
                return x.cheapest(false);
            case 9:
                return x.cost(1);
            case 10:
                return x.unseen(191, 1);
            case 11:
                return x.blind(0);
            case 12:
                return x.step(0);
            case 13:
                return x.stand();
            case 14:
                return x.follow(1, 3);
            default:
                return x.count(3);
        }
    }

    private static void oneCallAgainAndAgain() {
        sentence("An object is used for at most 512 calls after it has been made");
        int[] due = {192, 1, 1, 1, NONE, 1, 1, 1, 0, 1, 0, 192, NONE, 0, NONE, 1};
        for (int kind = 0; kind < due.length; kind++) {
            FloorEyes x = new FloorEyes();
            x.camera(0, 0, 20, 1, false, 1);
            for (int calls = 1; calls < 512; calls++) {
                long got = again(x, kind, calls % 2 == 1);
                // A round and a walk grow first, until they are full.
                boolean grows = kind == 4 && calls < 8 || kind == 12 && calls <= 60;
                due("kind " + kind + ", call " + calls, got, grows ? calls + (kind == 4 ? 1 : 0) : due[kind]);
            }
        }
    }

    private static void numbersOfCells() {
        sentence("CELLS x 0 to 15, y 0 to 11; number 16 y + x");
        FloorEyes x = new FloorEyes();
        due("the first row", x.shut(0, 15, true), 16);
        due("the first column, but for its first", x.shut(0, 176, true), 11);
        due("the last row, but for its first", x.shut(176, 191, true), 15);
        due("the last column, but for both ends", x.shut(15, 191, true), 10);
        due("15 and 16 are no neighbours: two whole rows", x.shut(15, 16, false), 16 + 2);
        due("all that are left", x.count(0), 16 + 11 + 15 + 10 - 18);
        dueIndex("-1", () -> x.tell(-1, true));
        dueIndex("192", () -> x.tell(192, true));
    }

    private static void outermostCorners() {
        sentence("each a square between whole corners (x to x + 1, y to y + 1; corners x 0 to 16, y 0 to 12)");
        int[][] corners = {{0, 0, 1, 0}, {16, 0, 3, 15}, {16, 12, 5, 191}, {0, 12, 7, 176}};
        for (int[] corner : corners) {
            FloorEyes x = new FloorEyes();
            due("camera", x.camera(corner[0], corner[1], 2, 1, false, corner[2]), 0);
            due("the cell at the corner " + corner[0] + ", " + corner[1], x.sees(0, corner[3], 0), true);
            due("it alone", x.blind(1), 191);
        }
        FloorEyes x = new FloorEyes();
        dueArgument("x -1", () -> x.camera(-1, 0, 2, 1, false, 1));
        dueArgument("x 17", () -> x.camera(17, 0, 2, 1, false, 3));
        dueArgument("y -1", () -> x.camera(0, -1, 2, 1, false, 1));
        dueArgument("y 13", () -> x.camera(0, 13, 2, 1, false, 7));
        due("none came", x.count(3), 0);
    }

    private static void nothingIsShutAtFirst() {
        sentence("A CELL is SHUT (a wall, a pillar) or not (at first)");
        FloorEyes x = new FloorEyes();
        due("count", x.count(0), 0);
        due("none is opened", x.shut(0, 191, false), 0);
        due("each is shut", x.shut(0, 191, true), 192);
        due("count", x.count(0), 192);
    }

    private static void nothingIsToldAtFirst() {
        sentence("A CELL may be TOLD (to be seen), and PRIVATE; both not, at first.");
        FloorEyes x = new FloorEyes();
        for (int cell = 0; cell < 192; cell++) {
            due("told " + cell, x.tell(cell, false), false);
            due("private " + cell, x.hide(cell, false), false);
        }
        due("told", x.count(1), 0);
        due("private", x.count(2), 0);
    }

    private static void shutAndToldAndPrivateAtOnce() {
        sentence("A CELL may be TOLD (to be seen), and PRIVATE");
        FloorEyes x = new FloorEyes();
        due("shut", x.shut(7, 7, true), 1);
        due("told", x.tell(7, true), true);
        due("private", x.hide(7, true), true);
        for (int what = 0; what < 3; what++) {
            due("count " + what, x.count(what), 1);
        }
        due("opened", x.shut(7, 7, false), 1);
        due("told still", x.tell(7, true), false);
        due("private still", x.hide(7, true), false);
    }

    private static void twelveCameras() {
        sentence("CAMERAS (at most 12, numbered from 0 on)");
        FloorEyes x = new FloorEyes();
        for (int e = 0; e < 12; e++) {
            int number = e;
            dueIndex("not there yet: " + e, () -> x.turn(number, 0));
            due("camera " + e, x.camera(0, 0, 20, 1, false, 1), e);
            due("it sees", x.sees(e, 191, 0), true);
        }
        dueFull("the 13th", () -> x.camera(0, 0, 20, 1, false, 1));
        due("count", x.count(3), 12);
        due("cost", x.cost(-1), 12);
        dueIndex("number 12", () -> x.sees(12, 191, 0));
    }

    private static void reach() {
        sentence("a REACH (1 to 20)");
        FloorEyes x = new FloorEyes();
        due("1", x.camera(8, 6, 1, 1, false, 0), 0);
        due("20", x.camera(16, 12, 20, 1, false, 5), 1);
        due("1 away is shown", x.shows(0, cell(9, 6), 0), true);
        due("1 sees no cell, none has its corners so near", x.blind(1), 192);
        due("20 goes from corner to corner", x.sees(1, 0, 0), true);
        dueArgument("0", () -> x.camera(8, 6, 0, 1, false, 0));
        dueArgument("21", () -> x.camera(8, 6, 21, 1, false, 0));
        dueArgument("-1", () -> x.camera(8, 6, -1, 1, false, 0));
        dueArgument("least", () -> x.camera(8, 6, LEAST, 1, false, 0));
        dueArgument("greatest", () -> x.camera(8, 6, GREATEST, 1, false, 0));
        due("two came", x.count(3), 2);
    }

    private static void cost() {
        sentence("a COST (0 to 10000)");
        FloorEyes x = new FloorEyes();
        due("0", x.camera(8, 6, 1, 0, false, 0), 0);
        due("0 costs", x.cost(1), 0);
        dueArgument("-1", () -> x.camera(8, 6, 1, -1, false, 0));
        dueArgument("10001", () -> x.camera(8, 6, 1, 10001, false, 0));
        dueArgument("least", () -> x.camera(8, 6, 1, LEAST, false, 0));
        dueArgument("greatest", () -> x.camera(8, 6, 1, GREATEST, false, 0));
        for (int e = 1; e < 12; e++) {
            due("10000", x.camera(8, 6, 1, 10000, false, 0), e);
        }
        due("the sum of eleven", x.cost(4095), 110000);
    }

    private static void rounds() {
        sentence("a ROUND: 1 to 8 WAYS, one for each tick, again and again");
        for (int length = 1; length <= 8; length++) {
            FloorEyes x = new FloorEyes();
            x.camera(8, 6, 4, 1, true, length == 1 ? 0 : 4);
            for (int has = 2; has <= length; has++) {
                due("turn", x.turn(0, has == length ? 0 : 4), has);
            }
            int[] ticks = {0, 1, 2, 3, 4, 5, 6, 7, 8, 9, 13, 14, 15, 16, 17, 839, 840, 841, 100000, GREATEST - 1, GREATEST};
            for (int tick : ticks) {
                boolean is = tick % length == length - 1;
                due("sees, a round of " + length + ", tick " + tick, x.sees(0, cell(10, 6), tick), is);
                due("shows, a round of " + length + ", tick " + tick, x.shows(0, cell(10, 6), tick), is);
            }
        }
    }

    private static void ways() {
        sentence("A WAY is 0 to 7: along x growing, then by 45 degrees each towards y growing.");
        int[] along = {cell(12, 6), cell(11, 9), cell(7, 10), cell(4, 9), cell(3, 5), cell(4, 2), cell(8, 1), cell(11, 2)};
        for (int way = 0; way < 8; way++) {
            FloorEyes x = new FloorEyes();
            due("camera, way " + way, x.camera(8, 6, 20, 1, false, way), 0);
            for (int other = 0; other < 8; other++) {
                // The WAY's own cell touches the line of the WAY; those of its neighbours stand aside of it.
                boolean is = other == way;
                if (is || (other - way & 7) > 1 && (other - way & 7) < 7) {
                    due("way " + way + ", cell along " + other, x.sees(0, along[other], 0), is);
                }
            }
        }
        FloorEyes x = new FloorEyes();
        x.camera(8, 6, 20, 1, false, 0);
        for (int none : new int[] {-1, 8, LEAST, GREATEST}) {
            dueArgument("camera, way " + none, () -> x.camera(8, 6, 20, 1, false, none));
            dueArgument("turn, way " + none, () -> x.turn(0, none));
        }
        due("7 comes to a round", x.turn(0, 7), 2);
        due("and is looked by", x.sees(0, along[7], 1), true);
        due("0 comes to a round", x.turn(0, 0), 3);
        due("and is looked by", x.sees(0, along[0], 2), true);
    }

    private static void exceptionToldFirst() {
        sentence("Of several exceptions the one told first is thrown");
        FloorEyes x = new FloorEyes();
        dueIndex("turn: no such camera, no such way", () -> x.turn(0, 8));
        fillWithEyes(x);
        dueIndex("turn: no such camera, no such way", () -> x.turn(12, -1));
        dueArgument("turn: no such way, and it has 8", () -> x.turn(0, 8));
        dueArgument("camera: x, and there are 12", () -> x.camera(17, 0, 1, 1, false, 0));
        dueArgument("camera: y, and there are 12", () -> x.camera(0, 13, 1, 1, false, 0));
        dueArgument("camera: reach, and there are 12", () -> x.camera(0, 0, 0, 1, false, 0));
        dueArgument("camera: cost, and there are 12", () -> x.camera(0, 0, 1, -1, false, 0));
        dueArgument("camera: way, and there are 12", () -> x.camera(0, 0, 1, 1, false, 8));
        dueFull("camera: there are 12", () -> x.camera(0, 0, 1, 1, false, 0));
        for (int has = 1; has <= 60; has++) {
            x.step(0);
        }
        dueIndex("step: no such cell, and there are 60", () -> x.step(192));
        dueIndex("sees: no such cell, below tick 0", () -> x.sees(0, 192, -1));
        dueIndex("sees: no such camera, below tick 0", () -> x.sees(12, 0, -1));
        dueIndex("shows: no such cell, below tick 0", () -> x.shows(0, 192, -1));
        dueIndex("shows: no such camera, below tick 0", () -> x.shows(12, 0, -1));
    }

    private static void noSuchCell() {
        sentence("IndexOutOfBoundsException: there is no such CELL, CAMERA.");
        FloorEyes x = new FloorEyes();
        x.camera(0, 0, 20, 1, false, 1);
        for (int none : new int[] {-1, 192, 193, -192, 256, LEAST, GREATEST}) {
            dueIndex("shut from " + none, () -> x.shut(none, 0, true));
            dueIndex("shut to " + none, () -> x.shut(0, none, true));
            dueIndex("shut from and to " + none, () -> x.shut(none, none, false));
            dueIndex("tell " + none, () -> x.tell(none, true));
            dueIndex("hide " + none, () -> x.hide(none, true));
            dueIndex("mask " + none, () -> x.mask(0, none, true));
            dueIndex("sees " + none, () -> x.sees(0, none, 0));
            dueIndex("shows " + none, () -> x.shows(0, none, 0));
            dueIndex("unseen " + none, () -> x.unseen(none, 1));
            dueIndex("step " + none, () -> x.step(none));
        }
        due("all still stand open", x.blind(1), 0);
        for (int is : new int[] {0, 191}) {
            due("tell " + is, x.tell(is, true), true);
            due("hide " + is, x.hide(is, true), true);
            due("mask " + is, x.mask(0, is, true), true);
            due("mask " + is, x.mask(0, is, false), true);
            due("sees " + is, x.sees(0, is, 0), true);
            due("shows " + is, x.shows(0, is, 0), true);
            due("unseen " + is, x.unseen(is, 1), 0);
            due("step " + is, x.step(is), is == 0 ? 1 : 2);
            due("shut " + is, x.shut(is, is, true), 1);
            due("opened " + is, x.shut(is, is, false), 1);
        }
    }

    private static void noSuchCamera() {
        sentence("IndexOutOfBoundsException: there is no such CELL, CAMERA.");
        FloorEyes x = new FloorEyes();
        for (int there : new int[] {0, 1, 11, 12}) {
            while (x.count(3) < there) {
                x.camera(0, 0, 20, 1, false, 1);
            }
            for (int none : new int[] {-1, there, 12, 32, LEAST, GREATEST}) {
                dueIndex("turn " + none + " of " + there, () -> x.turn(none, 0));
                dueIndex("mask " + none + " of " + there, () -> x.mask(none, 0, true));
                dueIndex("sees " + none + " of " + there, () -> x.sees(none, 0, 0));
                dueIndex("shows " + none + " of " + there, () -> x.shows(none, 0, 0));
            }
        }
        due("the last one's mask", x.mask(11, 0, true), true);
        due("it sees", x.sees(11, 1, 0), true);
        due("it shows", x.shows(11, 1, 0), true);
        due("it turns", x.turn(11, 1), 2);
    }
}
