import java.util.NoSuchElementException;

/** The promises 1 to 9, 15 and 18 at their bounds, and that a call that throws or is refused changes nothing. */
public final class FloorEyesCalls extends Checks {
    public static void main(String[] args) {
        readDocument(args);
        newObject();
        rectangles();
        rectanglesThatWereOtherwise();
        toldOtherwise();
        privateOtherwise();
        numbersOfACamera();
        noThirteenth();
        roundOfEight();
        fullRoundStays();
        noSuchWay();
        maskedOtherwise();
        belowTickNought();
        counts();
        countsOfAllCells();
        whatThrowsChangesNothing();
        whatThrowsChangesNothingWhenFull();
        whatIsRefusedChangesNothing();
        end("calls hold at their bounds");
    }

    private static void newObject() {
        sentence("A FLOOR without walls; no CAMERAS, no WALK.");
        FloorEyes x = new FloorEyes();
        for (int what = 0; what <= 4; what++) {
            due("count(" + what + ")", x.count(what), 0);
        }
        due("blind", x.blind(-1), 192);
        due("stand", x.stand(), 0);
        due("cost", x.cost(-1), 0);
        due("cheapest", x.cheapest(false), 0);
        due("cheapest, safe", x.cheapest(true), 0);
        due("serves", x.serves(-1, false), true);
        due("safe", x.serves(-1, true), true);
        dueIndex("no camera", () -> x.sees(0, 0, 0));
        due("the first camera", x.camera(0, 0, 20, 1, false, 1), 0);
        due("no walls", x.blind(1), 0);
        due("the first step", x.step(0), 1);
        FloorEyes y = new FloorEyes();
        due("another object knows nothing of it", y.count(3), 0);
        due("another object knows nothing of it", y.count(4), 0);
    }

    private static void rectangles() {
        sentence("CELLS of a rectangle from one CELL to another one (the corners of it) are SHUT, or not");
        int[][] pairs = {{cell(3, 2), cell(6, 4)}, {cell(6, 4), cell(3, 2)}, {cell(6, 2), cell(3, 4)},
            {cell(3, 4), cell(6, 2)}};
        for (int[] pair : pairs) {
            FloorEyes x = new FloorEyes();
            due("shut", x.shut(pair[0], pair[1], true), 12);
            for (int row = 1; row <= 5; row++) {
                for (int column = 2; column <= 7; column++) {
                    boolean in = row >= 2 && row <= 4 && column >= 3 && column <= 6;
                    int cell = cell(column, row);
                    due("cell " + cell, x.shut(cell, cell, true), in ? 0 : 1);
                }
            }
        }
        FloorEyes x = new FloorEyes();
        due("one", x.shut(191, 191, true), 1);
        due("a row", x.shut(cell(15, 5), cell(0, 5), true), 16);
        due("a column, one of it is shut", x.shut(cell(9, 11), cell(9, 0), true), 11);
        due("all", x.shut(cell(15, 0), cell(0, 11), true), 192 - 1 - 16 - 11);
        due("all again", x.shut(0, 191, true), 0);
        due("all open", x.shut(191, 0, false), 192);
        due("all open again", x.shut(0, 191, false), 0);
    }

    private static void rectanglesThatWereOtherwise() {
        sentence("are SHUT, or not: how many were otherwise");
        FloorEyes x = new FloorEyes();
        x.camera(0, 0, 20, 1, false, 1);
        due("shut", x.shut(40, 40, true), 1);
        due("again", x.shut(40, 40, true), 0);
        due("a pillar stands", x.sees(0, 40, 0), false);
        due("with its neighbours", x.shut(39, 41, true), 2);
        due("count", x.count(0), 3);
        due("one is opened", x.shut(40, 40, false), 1);
        due("count", x.count(0), 2);
        due("the rest of a rectangle", x.shut(38, 42, false), 2);
        due("seen again", x.sees(0, 40, 0), true);
        due("all are", x.blind(1), 0);
    }

    private static void toldOtherwise() {
        sentence("A CELL is TOLD, or not: whether it was otherwise.");
        FloorEyes x = new FloorEyes();
        for (int cell : new int[] {0, 15, 16, 176, 191}) {
            due("not told", x.tell(cell, false), false);
            due("told", x.tell(cell, true), true);
            due("told again", x.tell(cell, true), false);
            due("count", x.count(1), 1);
            due("it is asked for", x.serves(0, false), false);
            due("told no more", x.tell(cell, false), true);
            due("it is not asked for", x.serves(0, false), true);
            due("count", x.count(1), 0);
        }
        due("none is private", x.count(2), 0);
        due("none is shut", x.count(0), 0);
    }

    private static void privateOtherwise() {
        sentence("A CELL is PRIVATE, or not: whether it was otherwise.");
        FloorEyes x = new FloorEyes();
        x.camera(0, 0, 20, 1, false, 1);
        for (int cell : new int[] {0, 15, 16, 176, 191}) {
            due("not private", x.hide(cell, false), false);
            due("private", x.hide(cell, true), true);
            due("private again", x.hide(cell, true), false);
            due("count", x.count(2), 1);
            due("it may not be shown", x.serves(1, false), false);
            due("it is shown and seen all the same", x.shows(0, cell, 0) && x.sees(0, cell, 0), true);
            due("private no more", x.hide(cell, false), true);
            due("it may be shown", x.serves(1, false), true);
            due("count", x.count(2), 0);
        }
        due("none is told", x.count(1), 0);
        due("none is shut", x.count(0), 0);
    }

    private static void numbersOfACamera() {
        sentence("IllegalArgumentException: a number is none; UnsupportedOperationException: there are 12.");
        FloorEyes x = new FloorEyes();
        for (int none : new int[] {-1, 17, LEAST, GREATEST}) {
            dueArgument("x " + none, () -> x.camera(none, 0, 1, 0, false, 0));
        }
        for (int none : new int[] {-1, 13, 16, LEAST, GREATEST}) {
            dueArgument("y " + none, () -> x.camera(0, none, 1, 0, false, 0));
        }
        for (int none : new int[] {-1, 0, 21, LEAST, GREATEST}) {
            dueArgument("reach " + none, () -> x.camera(0, 0, none, 0, false, 0));
        }
        for (int none : new int[] {-1, 10001, LEAST, GREATEST}) {
            dueArgument("cost " + none, () -> x.camera(0, 0, 1, none, false, 0));
        }
        for (int none : new int[] {-1, 8, LEAST, GREATEST}) {
            dueArgument("way " + none, () -> x.camera(0, 0, 1, 0, true, none));
        }
        due("none came", x.count(3), 0);
        due("all at their least", x.camera(0, 0, 1, 0, false, 0), 0);
        due("all at their greatest", x.camera(16, 12, 20, 10000, true, 7), 1);
        due("cost", x.cost(3), 10000);
    }

    private static void noThirteenth() {
        sentence("UnsupportedOperationException: there are 12");
        FloorEyes x = new FloorEyes();
        for (int e = 0; e < 12; e++) {
            due("its number", x.camera(0, 0, 20, e, false, 1), e);
        }
        for (int more = 0; more < 3; more++) {
            dueFull("the 13th", () -> x.camera(8, 6, 1, 10000, true, 4));
            due("count", x.count(3), 12);
            due("cost", x.cost(-1), 66);
            due("the last is as it was", x.sees(11, 191, 0), true);
            due("its round is as it was", x.sees(11, 191, 1), true);
        }
    }

    private static void roundOfEight() {
        sentence("A WAY comes to the end of a CAMERA's ROUND: how many it has; NONE, and it does not come, if it has 8.");
        FloorEyes x = new FloorEyes();
        x.camera(8, 6, 4, 1, true, 3);
        int[] seen = {16 * 6 + 10, 16 * 8 + 8, 16 * 8 + 7, 16 * 6 + 5, 16 * 5 + 5, 16 * 3 + 7, 16 * 3 + 8, 16 * 5 + 10};
        int[] ways = {3, 7, 0, 5, 5, 1, 6, 2};
        for (int has = 2; has <= 8; has++) {
            due("how many it has", x.turn(0, ways[has - 1]), has);
        }
        for (int tick = 0; tick < 24; tick++) {
            for (int way = 0; way < 8; way++) {
                due("tick " + tick + ", way " + way, x.sees(0, seen[way], tick), ways[tick % 8] == way);
            }
        }
    }

    private static void fullRoundStays() {
        sentence("NONE, and it does not come, if it has 8");
        FloorEyes x = new FloorEyes();
        int east = cell(10, 6);
        x.camera(8, 6, 20, 1, true, 4);
        for (int has = 2; has <= 8; has++) {
            due("way " + has, x.turn(0, 4), has);
        }
        x.hide(east, true);
        x.step(east);
        for (int way = 0; way < 8; way++) {
            due("a ninth", x.turn(0, way), NONE);
        }
        for (int tick = 0; tick < 17; tick++) {
            due("it does not see it at " + tick, x.sees(0, east, tick), false);
            due("it does not show it at " + tick, x.shows(0, east, tick), false);
            due("it looks to the other side at " + tick, x.sees(0, cell(4, 5), tick), true);
        }
        due("it never shows it", x.serves(1, false), true);
        due("it never sees it", x.unseen(east, 1), NONE);
        due("it sees as many cells as one that looks but that way", x.blind(1), blindBehindWayFour());
        due("another one turns", x.camera(0, 0, 20, 1, false, 1), 1);
        due("by its own round", x.turn(1, 1), 2);
    }

    private static int blindBehindWayFour() {
        FloorEyes x = new FloorEyes();
        x.camera(8, 6, 20, 1, true, 4);
        return x.blind(1);
    }

    private static void noSuchWay() {
        sentence("IllegalArgumentException: it is none.");
        FloorEyes x = new FloorEyes();
        x.camera(8, 6, 20, 1, true, 4);
        for (int none : new int[] {-1, 8, 9, LEAST, GREATEST}) {
            dueArgument("way " + none, () -> x.turn(0, none));
        }
        for (int way = 0; way < 7; way++) {
            due("way " + way, x.turn(0, way), way + 2);
        }
        for (int none : new int[] {-1, 8, LEAST, GREATEST}) {
            dueArgument("way " + none + " of a full round", () -> x.turn(0, none));
        }
        due("way 7 of a full round", x.turn(0, 7), NONE);
    }

    private static void maskedOtherwise() {
        sentence("A CELL is MASKED for a CAMERA, or not: whether it was otherwise.");
        FloorEyes x = new FloorEyes();
        for (int e = 0; e < 12; e++) {
            x.camera(0, 0, 20, 1, false, 1);
        }
        for (int e = 0; e < 12; e += 11) {
            for (int cell : new int[] {0, 15, 16, 191}) {
                due("not masked", x.mask(e, cell, false), false);
                due("masked", x.mask(e, cell, true), true);
                due("masked again", x.mask(e, cell, true), false);
                due("not seen", x.sees(e, cell, 0), false);
                due("by another one", x.sees(11 - e, cell, 0), true);
                due("masked no more", x.mask(e, cell, false), true);
                due("seen", x.sees(e, cell, 0), true);
            }
        }
        x.shut(40, 40, true);
        due("a shut cell may be masked", x.mask(0, 40, true), true);
        x.shut(40, 40, false);
        due("and stays so when it opens", x.sees(0, 40, 0), false);
        due("count of shut, told and private cells", x.count(0) + x.count(1) + x.count(2), 0);
    }

    private static void belowTickNought() {
        sentence("Whether a CAMERA SEES a CELL at a tick; false for a tick below 0.");
        FloorEyes x = new FloorEyes();
        x.camera(0, 0, 20, 1, false, 1);
        for (int tick : new int[] {-1, -2, -8, -840, LEAST, LEAST + 1}) {
            due("sees at " + tick, x.sees(0, 191, tick), false);
        }
        for (int tick : new int[] {0, 1, 839, 840, GREATEST}) {
            due("sees at " + tick, x.sees(0, 191, tick), true);
        }
        sentence("Whether it SHOWS it; likewise.");
        for (int tick : new int[] {-1, -2, -8, -840, LEAST, LEAST + 1}) {
            due("shows at " + tick, x.shows(0, 191, tick), false);
        }
        for (int tick : new int[] {0, 1, 839, 840, GREATEST}) {
            due("shows at " + tick, x.shows(0, 191, tick), true);
        }
        dueIndex("no such camera, below tick 0", () -> x.shows(1, 191, -1));
        dueIndex("no such cell, below tick 0", () -> x.shows(0, 192, -1));
    }

    private static void counts() {
        sentence("0 CELLS that are SHUT, 1 TOLD, 2 PRIVATE, 3 CAMERAS, 4 STEPS. NONE for another what.");
        FloorEyes x = new FloorEyes();
        x.shut(0, 4, true);
        x.tell(0, true);
        x.tell(1, true);
        x.tell(8, true);
        x.tell(9, true);
        x.hide(2, true);
        x.hide(8, true);
        x.hide(191, true);
        x.camera(1, 1, 1, 1, true, 1);
        x.camera(1, 1, 1, 1, true, 1);
        x.step(0);
        int[] due = {5, 4, 3, 2, 1};
        for (int what = 0; what < 5; what++) {
            due("what " + what, x.count(what), due[what]);
        }
        for (int other : new int[] {-1, 5, 6, LEAST, GREATEST}) {
            due("what " + other, x.count(other), NONE);
        }
    }

    private static void countsOfAllCells() {
        sentence("0 CELLS that are SHUT, 1 TOLD, 2 PRIVATE");
        FloorEyes x = new FloorEyes();
        for (int cell = 0; cell < 192; cell++) {
            x.tell(cell, true);
            x.hide(cell, true);
        }
        x.shut(0, 191, true);
        for (int what = 0; what < 3; what++) {
            due("all of what " + what, x.count(what), 192);
        }
    }

    private static final int[] PROBES = {0, 1, 17, 40, 85, 100, 104, 150, 190, 191};

    /** A floor on which each kind of thing stands. */
    private static FloorEyes furnished() {
        FloorEyes x = new FloorEyes();
        x.shut(cell(5, 5), cell(6, 6), true);
        x.tell(17, true);
        x.tell(40, true);
        x.hide(150, true);
        x.camera(0, 0, 20, 3, false, 1);
        x.camera(16, 12, 12, 5, true, 4);
        x.camera(8, 6, 9, 4, false, 0);
        x.turn(2, 3);
        x.turn(2, 5);
        x.mask(1, 40, true);
        x.mask(0, 150, true);
        x.step(17);
        x.step(190);
        x.step(100);
        x.step(85);
        return x;
    }

    /** All that can be asked of an object within 512 calls; what asks by a change comes last. */
    private static String told(FloorEyes x, int cameras) {
        StringBuilder all = new StringBuilder();
        for (int what = 0; what < 5; what++) {
            all.append(x.count(what)).append(' ');
        }
        all.append(x.cheapest(false)).append(' ').append(x.cheapest(true)).append(' ').append(x.cost(-1));
        for (int set = 0; set < 8; set++) {
            all.append(' ').append(x.serves(set, false)).append(' ').append(x.serves(set, true));
            all.append(' ').append(x.blind(set)).append(' ').append(x.unseen(17, set));
            all.append(' ').append(x.follow(set, 0)).append(' ').append(x.follow(set, 2));
        }
        for (int e = 0; e < cameras; e += cameras > 3 ? 11 : 1) {
            for (int probe : PROBES) {
                for (int tick = 0; tick < 3; tick++) {
                    all.append(' ').append(x.sees(e, probe, tick)).append(' ').append(x.shows(e, probe, tick));
                }
                all.append(' ').append(x.mask(e, probe, true));
            }
            all.append(' ').append(x.turn(e, 6));
        }
        for (int probe : PROBES) {
            all.append(' ').append(x.tell(probe, true)).append(' ').append(x.hide(probe, true));
            all.append(' ').append(x.shut(probe, probe, true));
        }
        return all.append(' ').append(x.step(0)).append(' ').append(x.stand()).toString();
    }

    private interface Wrong {
        void on(FloorEyes x);
    }

    private static void dueUnchanged(String name, Class<? extends RuntimeException> thrown, Wrong call) {
        FloorEyes x = furnished();
        // Asked once before too, so that what the object keeps of its answers stands as well.
        x.serves(7, false);
        x.follow(7, 2);
        for (int again = 0; again < 2; again++) {
            dueThrow(name, thrown, () -> call.on(x));
        }
        dueText(name, told(x, 3), told(furnished(), 3));
    }

    private static void whatThrowsChangesNothing() {
        sentence("a call that throws changes nothing");
        Class<? extends RuntimeException> index = IndexOutOfBoundsException.class;
        Class<? extends RuntimeException> argument = IllegalArgumentException.class;
        dueUnchanged("shut to 192", index, x -> x.shut(17, 192, true));
        dueUnchanged("shut to -1", index, x -> x.shut(17, -1, true));
        dueUnchanged("shut from 192", index, x -> x.shut(192, 17, true));
        dueUnchanged("opened from -1", index, x -> x.shut(-1, 85, false));
        dueUnchanged("opened to 192", index, x -> x.shut(85, 192, false));
        dueUnchanged("tell 192", index, x -> x.tell(192, true));
        dueUnchanged("tell -1", index, x -> x.tell(-1, false));
        dueUnchanged("hide 192", index, x -> x.hide(192, true));
        dueUnchanged("hide -1", index, x -> x.hide(-1, false));
        dueUnchanged("camera, x", argument, x -> x.camera(17, 6, 9, 1, false, 1));
        dueUnchanged("camera, y", argument, x -> x.camera(8, 13, 9, 1, false, 1));
        dueUnchanged("camera, reach", argument, x -> x.camera(8, 6, 21, 1, false, 1));
        dueUnchanged("camera, cost", argument, x -> x.camera(8, 6, 9, -1, false, 1));
        dueUnchanged("camera, way", argument, x -> x.camera(8, 6, 9, 1, false, 8));
        dueUnchanged("turn, camera", index, x -> x.turn(3, 0));
        dueUnchanged("turn, camera -1", index, x -> x.turn(-1, 0));
        dueUnchanged("turn, way", argument, x -> x.turn(2, 8));
        dueUnchanged("turn, way -1", argument, x -> x.turn(2, -1));
        dueUnchanged("mask, camera", index, x -> x.mask(3, 17, true));
        dueUnchanged("mask, camera -1", index, x -> x.mask(-1, 17, true));
        dueUnchanged("mask, cell", index, x -> x.mask(0, 192, true));
        dueUnchanged("mask, cell -1", index, x -> x.mask(0, -1, true));
        dueUnchanged("sees, cell", index, x -> x.sees(0, 192, 0));
        dueUnchanged("shows, camera", index, x -> x.shows(3, 17, 0));
        dueUnchanged("unseen", index, x -> x.unseen(192, 7));
        dueUnchanged("step 192", index, x -> x.step(192));
        dueUnchanged("step -1", index, x -> x.step(-1));
        dueUnchanged("follow", NoSuchElementException.class, x -> x.follow(7, 4));
    }

    private static FloorEyes full() {
        FloorEyes x = furnished();
        for (int e = 3; e < 12; e++) {
            x.camera(e, e, 9, e, e % 2 == 0, e % 8);
        }
        for (int has = 2; has <= 8; has++) {
            x.turn(11, has % 3);
        }
        for (int steps = 4; steps < 60; steps++) {
            x.step(PROBES[steps % 10]);
        }
        return x;
    }

    private static void whatThrowsChangesNothingWhenFull() {
        sentence("a call that throws changes nothing");
        FloorEyes x = full();
        dueFull("the 13th camera", () -> x.camera(0, 0, 20, 0, false, 1));
        dueArgument("the 13th camera, a number is none", () -> x.camera(0, 0, 20, 0, false, 8));
        dueIndex("the 61st step, no such cell", () -> x.step(192));
        dueArgument("the ninth way, and none", () -> x.turn(11, 8));
        dueText("all that can be asked", told(x, 12), told(full(), 12));
    }

    private static void whatIsRefusedChangesNothing() {
        sentence("NONE, and it does not come, if there are 60.");
        FloorEyes x = full();
        due("the 61st step", x.step(17), NONE);
        dueText("all that can be asked", told(x, 12), told(full(), 12));
        sentence("NONE, and it does not come, if it has 8.");
        FloorEyes y = full();
        due("the ninth way", y.turn(11, 7), NONE);
        dueText("all that can be asked", told(y, 12), told(full(), 12));
    }
}
