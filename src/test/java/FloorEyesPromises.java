import java.util.NoSuchElementException;

/** Each promise of the document by hand-made runs: ordinary inputs, the edges, wrong inputs. */
public final class FloorEyesPromises extends Checks {
    private static final int PROMISES = 18;
    private static final boolean[] tested = new boolean[PROMISES + 1];

    public static void main(String[] args) {
        readDocument(args);
        newObject();
        shut();
        tell();
        hide();
        camera();
        turn();
        mask();
        seesByReach();
        seesByWay();
        seesPastWalls();
        seesByTick();
        shows();
        showsPastWalls();
        serves();
        servesWithoutShowing();
        cheapest();
        cheapestOfEqualCost();
        cost();
        unseen();
        allTicks();
        blind();
        step();
        stand();
        follow();
        followAcrossGaps();
        count();
        throwingChangesNothing();
        eachPromiseWasTested();
        end("all promises hold");
    }

    private static void promise(int number, String name) {
        sentence("## Promise " + number + ": " + name + "\n");
        tested[number] = true;
    }

    private static void eachPromiseWasTested() {
        part("each promise has a test of its own");
        for (int number = 1; number <= PROMISES; number++) {
            due("promise " + number, tested[number], true);
        }
    }

    private static void newObject() {
        promise(1, "A new object");
        FloorEyes x = new FloorEyes();
        for (int what = 0; what <= 4; what++) {
            due("count(" + what + ")", x.count(what), 0);
        }
        due("serves(0)", x.serves(0, false), true);
        due("serves(-1, safe)", x.serves(-1, true), true);
        due("cheapest", x.cheapest(false), 0);
        due("cheapest, safe", x.cheapest(true), 0);
        due("cost", x.cost(-1), 0);
        due("blind", x.blind(-1), 192);
        due("unseen", x.unseen(0, -1), NONE);
        due("follow 0", x.follow(-1, 0), 0);
        due("follow 1", x.follow(-1, 1), 0);
        due("follow 2", x.follow(-1, 2), 0);
        due("follow 3", x.follow(-1, 3), NONE);
        due("stand", x.stand(), 0);
        dueIndex("sees", () -> x.sees(0, 0, 0));
    }

    private static void shut() {
        promise(2, "shut");
        FloorEyes x = new FloorEyes();
        due("one", x.shut(0, 0, true), 1);
        due("one again", x.shut(0, 0, true), 0);
        due("from the far corner", x.shut(cell(2, 3), cell(1, 2), true), 4);
        due("by the other two corners", x.shut(cell(2, 2), cell(1, 3), true), 0);
        due("count", x.count(0), 5);
        due("a part is shut already", x.shut(cell(1, 1), cell(3, 3), true), 5);
        due("opened", x.shut(cell(3, 1), cell(3, 3), false), 3);
        due("a row's end is not the next row's beginning", x.shut(cell(15, 8), cell(0, 9), true), 32);
        due("all", x.shut(0, 191, true), 192 - 7 - 32);
        due("all open", x.shut(191, 0, false), 192);
        due("count", x.count(0), 0);
        dueIndex("from -1", () -> x.shut(-1, 0, true));
        dueIndex("from 192", () -> x.shut(192, 0, true));
        dueIndex("to -1", () -> x.shut(0, -1, true));
        dueIndex("to 192", () -> x.shut(0, 192, true));
        due("count", x.count(0), 0);
    }

    private static void tell() {
        promise(3, "tell");
        FloorEyes x = new FloorEyes();
        due("0", x.tell(0, true), true);
        due("0 again", x.tell(0, true), false);
        due("191", x.tell(191, true), true);
        due("5 is not", x.tell(5, false), false);
        due("count", x.count(1), 2);
        due("0 no more", x.tell(0, false), true);
        due("count", x.count(1), 1);
        due("none is private", x.count(2), 0);
        dueIndex("-1", () -> x.tell(-1, true));
        dueIndex("192", () -> x.tell(192, true));
    }

    private static void hide() {
        promise(4, "hide");
        FloorEyes x = new FloorEyes();
        due("0", x.hide(0, true), true);
        due("0 again", x.hide(0, true), false);
        due("191", x.hide(191, true), true);
        due("5 is not", x.hide(5, false), false);
        due("count", x.count(2), 2);
        due("0 no more", x.hide(0, false), true);
        due("count", x.count(2), 1);
        due("none is told", x.count(1), 0);
        dueIndex("-1", () -> x.hide(-1, true));
        dueIndex("192", () -> x.hide(192, true));
    }

    private static void camera() {
        promise(5, "camera");
        FloorEyes x = new FloorEyes();
        due("the least", x.camera(0, 0, 1, 0, false, 0), 0);
        due("the most", x.camera(16, 12, 20, 10000, true, 7), 1);
        dueArgument("x -1", () -> x.camera(-1, 0, 1, 0, false, 0));
        dueArgument("x 17", () -> x.camera(17, 0, 1, 0, false, 0));
        dueArgument("y -1", () -> x.camera(0, -1, 1, 0, false, 0));
        dueArgument("y 13", () -> x.camera(0, 13, 1, 0, false, 0));
        dueArgument("reach 0", () -> x.camera(0, 0, 0, 0, false, 0));
        dueArgument("reach 21", () -> x.camera(0, 0, 21, 0, false, 0));
        dueArgument("reach least int", () -> x.camera(0, 0, Integer.MIN_VALUE, 0, false, 0));
        dueArgument("cost -1", () -> x.camera(0, 0, 1, -1, false, 0));
        dueArgument("cost 10001", () -> x.camera(0, 0, 1, 10001, false, 0));
        dueArgument("way -1", () -> x.camera(0, 0, 1, 0, false, -1));
        dueArgument("way 8", () -> x.camera(0, 0, 1, 0, false, 8));
        due("count", x.count(3), 2);
        for (int number = 2; number < 12; number++) {
            due("number", x.camera(3, 3, 3, number, true, 3), number);
        }
        dueThrow("the 13th", UnsupportedOperationException.class, () -> x.camera(3, 3, 3, 3, true, 3));
        dueArgument("a wrong number is told first", () -> x.camera(3, 3, 3, 3, true, 8));
        due("count", x.count(3), 12);
        due("cost", x.cost(-1), 10000 + 65);
    }

    private static void turn() {
        promise(6, "turn");
        FloorEyes x = new FloorEyes();
        dueIndex("there is none", () -> x.turn(0, 0));
        x.camera(8, 6, 5, 1, true, 0);
        dueIndex("-1", () -> x.turn(-1, 0));
        dueIndex("1", () -> x.turn(1, 0));
        dueIndex("the camera is told first", () -> x.turn(1, 9));
        dueArgument("way -1", () -> x.turn(0, -1));
        dueArgument("way 8", () -> x.turn(0, 8));
        for (int has = 2; has <= 8; has++) {
            due("way " + has, x.turn(0, has == 8 ? 0 : 4), has);
        }
        due("a ninth", x.turn(0, 0), NONE);
        dueArgument("a ninth that is none", () -> x.turn(0, 8));
        int[] seen = {0, 7, 8, 15};
        for (int tick = 0; tick < 16; tick++) {
            boolean is = tick == seen[0] || tick == seen[1] || tick == seen[2] || tick == seen[3];
            due("tick " + tick, x.sees(0, cell(10, 6), tick), is);
        }
    }

    private static void mask() {
        promise(7, "mask");
        FloorEyes x = new FloorEyes();
        x.camera(0, 0, 20, 1, false, 1);
        x.camera(0, 0, 20, 1, false, 1);
        due("mask", x.mask(0, 17, true), true);
        due("mask again", x.mask(0, 17, true), false);
        due("not masked", x.mask(1, 17, false), false);
        due("masked sees", x.sees(0, 17, 0), false);
        due("masked shows", x.shows(0, 17, 0), false);
        due("another sees", x.sees(1, 17, 0), true);
        due("behind it sees", x.sees(0, 34, 0), true);
        due("unmask", x.mask(0, 17, false), true);
        due("sees", x.sees(0, 17, 0), true);
        due("shows", x.shows(0, 17, 0), true);
        dueIndex("camera -1", () -> x.mask(-1, 0, true));
        dueIndex("camera 2", () -> x.mask(2, 0, true));
        dueIndex("cell -1", () -> x.mask(0, -1, true));
        dueIndex("cell 192", () -> x.mask(0, 192, true));
    }

    private static void seesByReach() {
        promise(8, "sees");
        FloorEyes x = new FloorEyes();
        x.camera(0, 0, 5, 1, false, 1);
        due("3, 4 is 5 away", x.sees(0, cell(2, 3), 0), true);
        due("4, 3 is 5 away", x.sees(0, cell(3, 2), 0), true);
        due("4, 4 is farther", x.sees(0, cell(3, 3), 0), false);
        due("5, 1 is farther", x.sees(0, cell(4, 0), 0), false);
        x.camera(0, 0, 1, 1, false, 1);
        due("1, 1 is farther than 1", x.sees(1, 0, 0), false);
        x.camera(0, 0, 2, 1, false, 1);
        due("at its own corner", x.sees(2, 0, 0), true);
        x.camera(0, 0, 20, 1, false, 1);
        due("16, 12 is 20 away", x.sees(3, 191, 0), true);
        x.camera(0, 0, 19, 1, false, 1);
        due("16, 12 is farther than 19", x.sees(4, 191, 0), false);
        dueIndex("camera -1", () -> x.sees(-1, 0, 0));
        dueIndex("camera 5", () -> x.sees(5, 0, 0));
        dueIndex("cell -1", () -> x.sees(0, -1, 0));
        dueIndex("cell 192", () -> x.sees(0, 192, 0));
        dueIndex("cell 192 below tick 0", () -> x.sees(0, 192, -1));
    }

    /** The cell at the corner (8, 6) that lies wholly in each eighth of the circle, from way 0 on. */
    private static final int[] EIGHTHS = {
        16 * 6 + 9, 16 * 7 + 8, 16 * 7 + 7, 16 * 6 + 6, 16 * 5 + 6, 16 * 4 + 7, 16 * 4 + 8, 16 * 5 + 9};

    private static void seesByWay() {
        promise(8, "sees");
        for (int way = 0; way < 8; way++) {
            FloorEyes x = new FloorEyes();
            x.camera(8, 6, 4, 1, true, way);
            x.camera(8, 6, 4, 1, false, way);
            for (int eighth = 0; eighth < 8; eighth++) {
                due("narrow " + way + " at " + eighth, x.sees(0, EIGHTHS[eighth], 0), eighth == way);
                boolean wide = eighth == way || eighth == (way + 7) % 8;
                due("wide " + way + " at " + eighth, x.sees(1, EIGHTHS[eighth], 0), wide);
            }
            int[] near = {cell(8, 6), cell(7, 6), cell(7, 5), cell(8, 5)};
            for (int quarter = 0; quarter < 4; quarter++) {
                due("narrow, own cell", x.sees(0, near[quarter], 0), false);
                due("wide, own cell", x.sees(1, near[quarter], 0), way == 2 * quarter + 1);
            }
        }
    }

    private static void seesPastWalls() {
        promise(8, "sees");
        FloorEyes x = new FloorEyes();
        x.camera(0, 0, 20, 1, false, 1);
        x.shut(1, 1, true);
        due("a shut cell", x.sees(0, 1, 0), false);
        due("beside the wall", x.sees(0, 0, 0), true);
        due("below", x.sees(0, 16, 0), true);
        due("a part is behind it", x.sees(0, 17, 0), false);
        due("only touched at (1, 1)", x.sees(0, cell(1, 2), 0), true);
        due("behind", x.sees(0, 2, 0), false);
        x.shut(1, 1, false);
        due("opened", x.sees(0, 17, 0), true);

        FloorEyes rim = new FloorEyes();
        rim.camera(0, 1, 20, 1, false, 0);
        rim.shut(0, 15, true);
        due("along the rim of a wall", rim.sees(0, cell(9, 1), 0), true);
        rim.shut(cell(4, 2), cell(4, 2), true);
        due("no touch below the rim", rim.sees(0, cell(3, 1), 0), true);
        due("over a pillar's rim", rim.sees(0, cell(4, 1), 0), true);
        due("along a pillar's rim", rim.sees(0, cell(8, 1), 0), true);
        due("behind the pillar", rim.sees(0, cell(8, 3), 0), false);

        FloorEyes in = new FloorEyes();
        in.camera(8, 6, 20, 1, false, 0);
        in.camera(16, 12, 20, 1, false, 5);
        in.camera(8, 0, 20, 1, false, 1);
        in.shut(cell(7, 5), cell(8, 6), true);
        in.shut(191, 191, true);
        in.shut(7, 8, true);
        due("walled in on all four", in.shows(0, cell(9, 6), 0), false);
        due("walled in at the floor's corner", in.shows(1, 191, 0), false);
        due("walled in at the floor's edge", in.shows(2, 8, 0), false);
        due("sees nothing", in.blind(7), 192 - 7);
        in.shut(cell(7, 5), cell(7, 5), false);
        due("one of four is open", in.shows(0, cell(9, 6), 0), true);
        due("but it is no way for eyes", in.sees(0, cell(9, 6), 0), false);
    }

    private static void seesByTick() {
        promise(8, "sees");
        FloorEyes x = new FloorEyes();
        x.camera(8, 6, 4, 1, true, 4);
        x.turn(0, 0);
        x.turn(0, 4);
        due("tick 0", x.sees(0, cell(10, 6), 0), false);
        due("tick 1", x.sees(0, cell(10, 6), 1), true);
        due("tick 2", x.sees(0, cell(10, 6), 2), false);
        due("tick 4", x.sees(0, cell(10, 6), 4), true);
        due("tick -2", x.sees(0, cell(10, 6), -2), false);
        due("least tick", x.sees(0, cell(10, 6), Integer.MIN_VALUE), false);
        due("last tick", x.sees(0, cell(10, 6), Integer.MAX_VALUE), true);
        due("last tick shows", x.shows(0, cell(10, 6), Integer.MAX_VALUE), true);
        due("tick -2 shows", x.shows(0, cell(10, 6), -2), false);
    }

    private static void shows() {
        promise(9, "shows");
        FloorEyes x = new FloorEyes();
        x.camera(8, 6, 1, 1, false, 0);
        due("9, 6 is 1 away", x.shows(0, cell(9, 6), 0), true);
        due("9, 6 is 1 away", x.shows(0, cell(9, 5), 0), true);
        due("10, 6 is farther", x.shows(0, cell(10, 6), 0), false);
        due("9, 7 is farther", x.shows(0, cell(9, 7), 0), false);
        due("its own corner", x.shows(0, cell(7, 6), 0), true);
        due("its own corner", x.shows(0, cell(7, 5), 0), true);
        due("behind", x.shows(0, cell(6, 6), 0), false);
        x.camera(8, 6, 5, 1, true, 0);
        due("narrow, its own corner", x.shows(1, cell(7, 6), 0), true);
        due("narrow, by the next way", x.shows(1, cell(8, 7), 0), true);
        due("narrow, by its way", x.shows(1, cell(12, 5), 0), true);
        due("narrow, beside it", x.shows(1, cell(10, 4), 0), false);
        due("narrow, 12, 9 is 5 away", x.shows(1, cell(12, 9), 0), true);
        due("narrow, 13, 7 is farther", x.shows(1, cell(13, 7), 0), false);
        dueIndex("camera -1", () -> x.shows(-1, 0, 0));
        dueIndex("camera 2", () -> x.shows(2, 0, 0));
        dueIndex("cell -1", () -> x.shows(0, -1, 0));
        dueIndex("cell 192", () -> x.shows(0, 192, 0));
    }

    private static void showsPastWalls() {
        promise(9, "shows");
        FloorEyes x = new FloorEyes();
        x.camera(1, 1, 20, 1, false, 0);
        x.shut(cell(1, 0), cell(2, 1), true);
        due("a seam between walls", x.shows(0, cell(3, 0), 0), true);
        due("no seeing through it", x.sees(0, cell(3, 0), 0), false);
        due("a shut cell", x.shows(0, cell(2, 1), 0), true);
        due("(4, 2) is behind a wall", x.shows(0, cell(4, 2), 0), false);
        FloorEyes y = new FloorEyes();
        y.camera(0, 0, 20, 1, false, 1);
        y.shut(1, 1, true);
        y.shut(16, 16, true);
        due("between two pillars that touch", y.shows(0, cell(4, 4), 0), true);
        due("sees nothing there", y.sees(0, cell(4, 4), 0), false);
        y.shut(17, 17, true);
        due("a pillar behind", y.shows(0, cell(4, 4), 0), false);
        due("its near corner", y.shows(0, 17, 0), true);
    }

    private static void serves() {
        promise(10, "serves");
        FloorEyes x = new FloorEyes();
        x.camera(0, 0, 20, 4, false, 1);
        x.camera(0, 0, 20, 4, false, 1);
        x.camera(8, 6, 20, 4, true, 0);
        x.turn(2, 4);
        x.camera(8, 6, 20, 4, true, 4);
        x.turn(3, 0);
        x.tell(cell(10, 6), true);
        due("none", x.serves(0, false), false);
        due("one", x.serves(1, false), true);
        due("one is not safe", x.serves(1, true), false);
        due("two are safe", x.serves(3, true), true);
        due("a turning one", x.serves(4, false), false);
        due("two that take turns", x.serves(12, false), true);
        due("two that take turns are not safe", x.serves(12, true), false);
        due("one and the two", x.serves(13, true), true);
        due("all bits", x.serves(-1, true), true);
        due("cameras that there are not", x.serves(0x7FFFFFF0, false), false);
        x.mask(0, cell(10, 6), true);
        due("masked", x.serves(1, false), false);
        due("one and the two, it masked", x.serves(13, true), false);
        x.shut(cell(10, 6), cell(10, 6), true);
        due("a told cell that is shut", x.serves(0, true), true);
        x.shut(cell(10, 6), cell(10, 6), false);
        due("open again", x.serves(0, false), false);
        x.tell(cell(10, 6), false);
        due("not told", x.serves(0, true), true);
    }

    private static void servesWithoutShowing() {
        promise(10, "serves");
        FloorEyes x = new FloorEyes();
        x.camera(8, 6, 20, 4, true, 0);
        x.camera(8, 6, 20, 4, true, 0);
        x.turn(1, 4);
        x.hide(cell(2, 5), true);
        due("none", x.serves(0, true), true);
        due("it looks the other way", x.serves(1, false), true);
        due("it turns there", x.serves(2, false), false);
        due("both", x.serves(3, true), false);
        x.mask(1, cell(2, 5), true);
        due("masked", x.serves(3, true), true);
        x.hide(cell(12, 7), true);
        due("another", x.serves(1, false), false);
        x.shut(cell(12, 7), cell(12, 7), true);
        due("private and shut is shown", x.serves(1, false), false);
        x.hide(cell(12, 7), false);
        due("no more", x.serves(1, false), true);
    }

    private static void cheapest() {
        promise(11, "cheapest");
        FloorEyes x = new FloorEyes();
        x.tell(cell(10, 6), true);
        due("without cameras", x.cheapest(false), NONE);
        x.camera(0, 0, 20, 9, false, 1);
        x.camera(8, 6, 20, 3, true, 0);
        x.camera(8, 6, 20, 7, true, 0);
        due("one", x.cheapest(false), 2);
        due("two", x.cheapest(true), 6);
        x.turn(1, 4);
        due("it turns away", x.cheapest(false), 4);
        due("two others", x.cheapest(true), 5);
        x.camera(8, 6, 20, 3, true, 4);
        x.turn(3, 0);
        due("two that take turns", x.cheapest(false), 10);
        due("safe by three", x.cheapest(true), 14);
        x.hide(cell(3, 5), true);
        due("of one that turns the window is seen", x.cheapest(false), 4);
        x.hide(cell(12, 7), true);
        due("all see a window", x.cheapest(false), NONE);
        x.tell(cell(10, 6), false);
        due("nothing is told", x.cheapest(true), 0);
    }

    private static void cheapestOfEqualCost() {
        promise(11, "cheapest");
        FloorEyes x = new FloorEyes();
        x.tell(cell(10, 6), true);
        x.tell(cell(2, 6), true);
        x.camera(8, 6, 20, 2, true, 0);
        x.camera(8, 6, 20, 2, true, 3);
        x.camera(0, 0, 20, 4, false, 1);
        x.camera(0, 0, 20, 4, false, 1);
        due("the fewest, then the least bits", x.cheapest(false), 4);
        due("safe: two, not three of the same cost", x.cheapest(true), 12);
        x.camera(0, 0, 20, 0, false, 1);
        due("one for nothing", x.cheapest(false), 16);
        due("safe with it", x.cheapest(true), 20);
        x.camera(0, 0, 20, 0, false, 1);
        due("one of two for nothing", x.cheapest(false), 16);
        due("both for nothing", x.cheapest(true), 48);
    }

    private static void cost() {
        promise(12, "cost");
        FloorEyes x = new FloorEyes();
        for (int e = 0; e < 12; e++) {
            x.camera(e, e, 1 + e, e == 11 ? 10000 : 1 << e, false, 0);
        }
        due("none", x.cost(0), 0);
        due("one", x.cost(8), 8);
        due("the last", x.cost(1 << 11), 10000);
        due("some", x.cost(1 + 4 + 64), 69);
        due("all", x.cost(-1), 2047 + 10000);
        due("none that there is", x.cost(-1 << 12), 0);
    }

    private static void unseen() {
        promise(13, "unseen");
        FloorEyes x = new FloorEyes();
        int told = cell(10, 6);
        x.camera(8, 6, 20, 1, true, 0);
        due("always seen", x.unseen(told, 1), 0);
        due("by none", x.unseen(told, 0), NONE);
        due("never seen", x.unseen(0, 1), NONE);
        x.turn(0, 4);
        due("every other", x.unseen(told, 1), 1);
        x.turn(0, 4);
        due("every third", x.unseen(told, -1), 2);
        x.camera(8, 6, 20, 1, true, 4);
        x.turn(1, 4);
        x.turn(1, 0);
        x.turn(1, 4);
        x.turn(1, 4);
        due("on from a round's end to its beginning", x.unseen(told, 2), 4);
        // Seen at 0, 3, 6, 9, 12 and at 2, 7, 12 of 15 ticks.
        due("both", x.unseen(told, 3), 2);
        x.camera(8, 6, 20, 1, true, 4);
        for (int i = 0; i < 6; i++) {
            x.turn(2, i == 5 ? 0 : 4);
        }
        due("seen at 6 of 7", x.unseen(told, 4), 6);
        // 2 + 5 a = 6 + 7 b first at 27: rows of 4 stand before and behind it.
        due("5 and 7", x.unseen(told, 6), 4);
        x.mask(0, told, true);
        due("masked", x.unseen(told, 1), NONE);
        x.shut(told, told, true);
        due("shut", x.unseen(told, 7), NONE);
        dueIndex("-1", () -> x.unseen(-1, 0));
        dueIndex("192", () -> x.unseen(192, 0));
    }

    /** A camera that sees the cell (10, 6) at all ticks of its round but those that are named. */
    private static void addRound(FloorEyes x, int length, int... away) {
        int number = NONE;
        for (int tick = 0; tick < length; tick++) {
            int way = 0;
            for (int other : away) {
                way = other == tick ? 4 : way;
            }
            if (tick == 0) {
                number = x.camera(8, 6, 20, 1, true, way);
            } else {
                x.turn(number, way);
            }
        }
    }

    private static void allTicks() {
        promise(10, "serves");
        promise(13, "unseen");
        int told = cell(10, 6);
        FloorEyes x = new FloorEyes();
        x.tell(told, true);
        addRound(x, 8, 7);
        addRound(x, 3, 2);
        addRound(x, 5, 4);
        addRound(x, 7, 6);
        addRound(x, 2, 0);
        due("not at tick 23", x.serves(3, false), false);
        due("not at tick 839", x.serves(15, false), false);
        due("but with one of odd ticks", x.serves(31, false), true);
        due("the cheapest: two that are never away together", x.cheapest(false), 1 + 16);
        due("all are away only at tick 839", x.unseen(told, 15), 1);
        FloorEyes y = new FloorEyes();
        addRound(y, 8, 0, 7);
        addRound(y, 3, 0, 2);
        addRound(y, 5, 0, 4);
        addRound(y, 7, 0, 6);
        due("a row from tick 839 on to 840", y.unseen(told, 15), 2);
        addRound(y, 6, 0);
        due("a row that one ends", y.unseen(told, 31), 1);
    }

    private static void blind() {
        promise(14, "blind");
        FloorEyes x = new FloorEyes();
        x.camera(0, 0, 20, 1, false, 1);
        due("by none", x.blind(0), 192);
        due("all seen, to the farthest corner", x.blind(1), 0);
        x.mask(0, 7, true);
        due("but one", x.blind(-1), 1);
        x.shut(7, 7, true);
        due("a wall hides", x.blind(1), 8 + blindBehind());
        x.shut(0, 191, true);
        due("all shut", x.blind(1), 0);
        FloorEyes y = new FloorEyes();
        y.camera(8, 6, 1, 1, false, 1);
        y.camera(8, 6, 2, 1, false, 1);
        due("its reach is too short", y.blind(1), 192);
        due("one cell", y.blind(2), 191);
        y.turn(1, 3);
        due("two by turns", y.blind(2), 190);
    }

    /** The cells from row 1 on that a camera at (0, 0) does not wholly see for a wall on cell 7. */
    private static int blindBehind() {
        int hidden = 0;
        for (int y = 1; y < 12; y++) {
            for (int x = 0; x < 16; x++) {
                // The line to the upper right corner of the cell passes below (7, 1) just if y / (x + 1) < 1 / 7.
                if (7 * y < x + 1) {
                    hidden++;
                }
            }
        }
        return hidden;
    }

    private static void step() {
        promise(15, "step");
        FloorEyes x = new FloorEyes();
        dueIndex("-1", () -> x.step(-1));
        dueIndex("192", () -> x.step(192));
        x.shut(5, 5, true);
        for (int has = 1; has <= 60; has++) {
            due("step " + has, x.step(has == 60 ? 191 : 5), has);
        }
        due("one more", x.step(0), NONE);
        dueIndex("one more that is none", () -> x.step(192));
        due("count", x.count(4), 60);
        due("unseen", x.follow(-1, 1), 60);
    }

    private static void stand() {
        promise(16, "stand");
        FloorEyes x = new FloorEyes();
        x.camera(0, 0, 20, 1, false, 1);
        due("none", x.stand(), 0);
        x.step(3);
        x.step(4);
        due("two", x.stand(), 2);
        due("none any more", x.stand(), 0);
        due("count", x.count(4), 0);
        due("nothing is followed", x.follow(1, 0), 0);
        due("nobody follows", x.follow(1, 3), NONE);
        due("first again", x.step(9), 1);
    }

    private static void follow() {
        promise(17, "follow");
        FloorEyes x = new FloorEyes();
        x.camera(8, 6, 20, 1, true, 0);
        x.camera(8, 6, 20, 1, false, 0);
        x.camera(8, 6, 20, 1, false, 4);
        int[] walk = {cell(10, 4), cell(10, 6), cell(5, 6), cell(5, 5), cell(8, 11), cell(8, 0), cell(10, 6)};
        for (int tick = 0; tick < walk.length; tick++) {
            x.step(walk[tick]);
        }
        due("narrow: seen", x.follow(1, 0), 2);
        due("narrow: longest row", x.follow(1, 1), 4);
        due("narrow: handovers", x.follow(1, 2), 0);
        due("narrow: first", x.follow(1, 3), 0);
        due("all: seen", x.follow(7, 0), 5);
        due("all: longest row", x.follow(7, 1), 2);
        due("all: first", x.follow(7, 3), 1);
        due("all: handovers", x.follow(-1, 2), 2);
        due("none: seen", x.follow(0, 0), 0);
        due("none: longest row", x.follow(0, 1), 7);
        due("none: handovers", x.follow(-8, 2), 0);
        due("none: first", x.follow(0, 3), NONE);
        dueThrow("what -1", NoSuchElementException.class, () -> x.follow(1, -1));
        dueThrow("what 4", NoSuchElementException.class, () -> x.follow(1, 4));
    }

    private static void followAcrossGaps() {
        promise(17, "follow");
        FloorEyes x = new FloorEyes();
        x.camera(8, 6, 20, 1, true, 4);
        x.turn(0, 0);
        x.camera(8, 6, 20, 1, true, 0);
        int seenCell = cell(10, 6);
        x.step(seenCell);
        due("the second begins", x.follow(3, 3), 1);
        x.step(seenCell);
        due("and goes on", x.follow(3, 2), 0);
        x.step(cell(8, 0));
        x.step(seenCell);
        due("also behind a gap", x.follow(3, 2), 0);
        x.mask(1, seenCell, true);
        due("the first alone, by its turns: first", x.follow(3, 3), 0);
        due("the first alone, by its turns: seen", x.follow(3, 0), 2);
        due("the first alone: longest row", x.follow(3, 1), 1);
        x.mask(1, seenCell, false);
        x.step(cell(5, 5));
        x.step(seenCell);
        due("seen by the first between", x.follow(3, 0), 5);
        due("there and not back", x.follow(3, 2), 1);
        x.step(seenCell);
        due("back, for the first turns away", x.follow(3, 2), 2);
    }

    private static void count() {
        promise(18, "count");
        FloorEyes x = new FloorEyes();
        x.shut(0, 2, true);
        x.tell(0, true);
        x.tell(9, true);
        x.hide(1, true);
        for (int i = 0; i < 4; i++) {
            x.camera(1, 1, 1, 1, true, 1);
        }
        for (int i = 0; i < 5; i++) {
            x.step(0);
        }
        due("shut", x.count(0), 3);
        due("told", x.count(1), 2);
        due("private", x.count(2), 1);
        due("cameras", x.count(3), 4);
        due("steps", x.count(4), 5);
        due("5", x.count(5), NONE);
        due("-1", x.count(-1), NONE);
        due("least int", x.count(Integer.MIN_VALUE), NONE);
    }

    private static void throwingChangesNothing() {
        sentence("a call that throws changes nothing");
        FloorEyes x = new FloorEyes();
        x.camera(0, 0, 20, 1, false, 1);
        x.tell(17, true);
        x.step(17);
        dueIndex("shut", () -> x.shut(17, 400, true));
        dueIndex("tell", () -> x.tell(400, true));
        dueIndex("hide", () -> x.hide(400, true));
        dueArgument("camera", () -> x.camera(0, 0, 20, 1, false, 9));
        dueArgument("turn", () -> x.turn(0, 9));
        dueIndex("mask", () -> x.mask(0, 400, true));
        dueIndex("step", () -> x.step(400));
        int[] counts = {0, 1, 0, 1, 1};
        for (int what = 0; what <= 4; what++) {
            due("count(" + what + ")", x.count(what), counts[what]);
        }
        due("serves", x.serves(1, false), true);
        due("turn", x.turn(0, 1), 2);
    }
}
