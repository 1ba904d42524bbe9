/** The sentences about WALKS (15 to 17), at their bounds, each with a test of its own. */
public final class FloorEyesWalks extends Checks {
    /** A cell that a narrow camera at (8, 6) sees by WAY 0, one by WAY 4, and one by neither. */
    private static final int EAST = 16 * 6 + 10;
    private static final int WEST = 16 * 5 + 4;
    private static final int NORTH = 8;

    public static void main(String[] args) {
        readDocument(args);
        sixtySteps();
        aTickForEachStep();
        standBeginsAtTickNought();
        stepsThatAreSeen();
        whatChangesLater();
        longestRow();
        longestRowHasEnds();
        handovers();
        handoversBehindGaps();
        handoversToTheLeastNumber();
        firstThatFollows();
        noWalk();
        setsOfNone();
        otherWhat();
        end("walks hold at their bounds");
    }

    private static void addSteps(FloorEyes x, int... cells) {
        for (int cell : cells) {
            x.step(cell);
        }
    }

    private static void dueFollow(FloorEyes x, int set, int... answers) {
        for (int what = 0; what < 4; what++) {
            due("set " + set + ", what " + what, x.follow(set, what), answers[what]);
        }
    }

    private static void sixtySteps() {
        sentence("NONE, and it does not come, if there are 60");
        FloorEyes x = new FloorEyes();
        x.camera(8, 6, 20, 1, true, 0);
        for (int has = 1; has <= 60; has++) {
            due("step " + has, x.step(has == 1 || has == 60 ? EAST : WEST), has);
        }
        dueFollow(x, 1, 2, 58, 0, 0);
        for (int more = 0; more < 3; more++) {
            due("the 61st", x.step(WEST), NONE);
            due("how many there are", x.count(4), 60);
            dueFollow(x, 1, 2, 58, 0, 0);
        }
        dueIndex("no such cell", () -> x.step(192));
        dueIndex("no such cell", () -> x.step(-1));
        due("all go", x.stand(), 60);
        due("the first again", x.step(EAST), 1);
    }

    private static void aTickForEachStep() {
        sentence("at most 60 STEPS: CELLS, one for each tick from 0 on");
        for (int at = 0; at < 7; at++) {
            FloorEyes x = new FloorEyes();
            x.camera(8, 6, 20, 1, true, at == 0 ? 0 : 4);
            for (int tick = 1; tick < 7; tick++) {
                x.turn(0, at == tick ? 0 : 4);
            }
            for (int tick = 0; tick < 60; tick++) {
                x.step(EAST);
            }
            // Of the ticks 0 to 59 the last ones are 56 to 59: 0, 1, 2 and 3 of 7.
            due("seen at " + at + " of 7", x.follow(1, 0), at < 4 ? 9 : 8);
            due("longest row", x.follow(1, 1), 6);
        }
        FloorEyes x = new FloorEyes();
        x.camera(8, 6, 20, 1, true, 0);
        x.turn(0, 4);
        addSteps(x, EAST);
        due("tick 0", x.follow(1, 0), 1);
        addSteps(x, EAST);
        due("tick 1", x.follow(1, 0), 1);
        addSteps(x, EAST);
        due("tick 2", x.follow(1, 0), 2);
    }

    private static void standBeginsAtTickNought() {
        sentence("The WALK has no STEPS any more: how many it had.");
        FloorEyes x = new FloorEyes();
        x.camera(8, 6, 20, 1, true, 0);
        x.turn(0, 4);
        due("no walk", x.stand(), 0);
        addSteps(x, EAST);
        due("one step", x.stand(), 1);
        due("none any more", x.stand(), 0);
        due("count", x.count(4), 0);
        dueFollow(x, 1, 0, 0, 0, NONE);
        addSteps(x, EAST);
        due("the next walk begins at tick 0", x.follow(1, 0), 1);
        due("the cameras stay", x.count(3), 1);
    }

    private static void stepsThatAreSeen() {
        sentence("how many STEPS are SEEN (at their ticks, by one of it at least)");
        FloorEyes x = new FloorEyes();
        x.camera(8, 6, 20, 1, true, 0);
        x.camera(8, 6, 20, 1, true, 0);
        x.camera(8, 6, 20, 1, true, 4);
        addSteps(x, EAST, EAST, WEST, NORTH);
        due("by two at once, each step once", x.follow(3, 0), 2);
        due("by one or the other", x.follow(5, 0), 3);
        due("by the last alone", x.follow(4, 0), 1);
        FloorEyes y = new FloorEyes();
        y.camera(8, 6, 5, 1, false, 1);
        addSteps(y, cell(11, 10), cell(10, 9));
        due("the first is only shown", y.shows(0, cell(11, 10), 0), true);
        due("the second is seen", y.follow(1, 0), 1);
    }

    private static void whatChangesLater() {
        sentence("Of a SET: how many STEPS are SEEN");
        FloorEyes x = new FloorEyes();
        addSteps(x, EAST, EAST);
        dueFollow(x, 1, 0, 2, 0, NONE);
        x.camera(8, 6, 20, 1, true, 0);
        dueFollow(x, 1, 2, 0, 0, 0);
        x.turn(0, 4);
        dueFollow(x, 1, 1, 1, 0, 0);
        x.mask(0, EAST, true);
        dueFollow(x, 1, 0, 2, 0, NONE);
        x.mask(0, EAST, false);
        x.shut(EAST, EAST, true);
        dueFollow(x, 1, 0, 2, 0, NONE);
        due("a step on a shut cell comes too", x.step(EAST), 3);
        x.shut(EAST, EAST, false);
        dueFollow(x, 1, 2, 1, 0, 0);
    }

    private static void longestRow() {
        sentence("the longest row of STEPS that are not");
        FloorEyes x = new FloorEyes();
        x.camera(8, 6, 20, 1, true, 0);
        addSteps(x, WEST);
        due("one", x.follow(1, 1), 1);
        addSteps(x, WEST, EAST);
        due("at the beginning", x.follow(1, 1), 2);
        addSteps(x, WEST, WEST);
        due("as long", x.follow(1, 1), 2);
        addSteps(x, WEST);
        due("at the end", x.follow(1, 1), 3);
        addSteps(x, EAST, WEST, EAST, WEST);
        due("in the middle", x.follow(1, 1), 3);
        due("all", x.follow(0, 1), 10);
        x.stand();
        addSteps(x, EAST, EAST);
        due("none", x.follow(1, 1), 0);
    }

    private static void longestRowHasEnds() {
        sentence("the longest row of STEPS that are not");
        FloorEyes x = new FloorEyes();
        x.camera(8, 6, 20, 1, true, 0);
        addSteps(x, WEST, WEST, EAST, WEST, EAST, WEST, WEST);
        due("a walk's end does not go on at its beginning", x.follow(1, 1), 2);
    }

    private static void handovers() {
        sentence("the same CAMERA as ahead, if it SEES that, else the one of the least number that does");
        FloorEyes x = new FloorEyes();
        x.camera(8, 6, 20, 1, true, 4);
        x.camera(8, 6, 20, 1, true, 0);
        x.camera(0, 0, 20, 1, false, 1);
        addSteps(x, EAST);
        due("the first one is no handover", x.follow(-1, 2), 0);
        addSteps(x, EAST);
        due("nor is the same", x.follow(-1, 2), 0);
        addSteps(x, WEST);
        due("1 to 0", x.follow(-1, 2), 1);
        addSteps(x, EAST);
        due("and back", x.follow(-1, 2), 2);
        addSteps(x, NORTH);
        due("1 to 2", x.follow(-1, 2), 3);
        addSteps(x, WEST, EAST, WEST);
        due("2 sees all and stays, though 0 and 1 are less", x.follow(-1, 2), 3);
        due("2 alone never hands over", x.follow(4, 2), 0);
        due("2 with 0: 2 is the first and stays", x.follow(5, 2), 0);
        due("the first of these", x.follow(5, 3), 2);
    }

    private static void handoversBehindGaps() {
        sentence("how often that is another one than the latest one that followed");
        FloorEyes x = new FloorEyes();
        x.camera(8, 6, 20, 1, true, 4);
        x.camera(8, 6, 20, 1, true, 0);
        addSteps(x, NORTH, NORTH, EAST);
        dueFollow(x, 3, 1, 2, 0, 1);
        addSteps(x, NORTH, EAST);
        due("the same one behind a gap", x.follow(3, 2), 0);
        addSteps(x, NORTH, WEST);
        due("another one behind a gap", x.follow(3, 2), 1);
        addSteps(x, NORTH, NORTH);
        due("a gap at the end", x.follow(3, 2), 1);
        FloorEyes y = new FloorEyes();
        y.camera(8, 6, 20, 1, true, 4);
        y.turn(0, 4);
        y.turn(0, 0);
        y.camera(8, 6, 20, 1, true, 0);
        addSteps(y, EAST, NORTH, EAST);
        due("1 goes on behind a gap, though 0 sees it too", y.follow(3, 2), 0);
        due("0 sees it", y.follow(1, 0), 1);
    }

    private static void handoversToTheLeastNumber() {
        sentence("else the one of the least number that does");
        FloorEyes x = new FloorEyes();
        for (int e = 0; e < 11; e++) {
            x.camera(8, 6, 20, 1, true, 0);
        }
        x.camera(8, 6, 20, 1, true, 4);
        addSteps(x, WEST, EAST, WEST, EAST);
        dueFollow(x, -1, 4, 0, 3, 11);
        x.mask(0, WEST, true);
        for (int e = 1; e < 11; e++) {
            x.turn(e, 0);
            x.turn(e, 0);
            x.turn(e, e == 1 ? 0 : 4);
        }
        addSteps(x, NORTH, NORTH, NORTH, WEST);
        // From 0 at tick 3 to the one of the least number that sees the WEST at tick 7: 2, not 11.
        due("to 2", x.follow(-1, 2), 4);
        x.step(EAST);
        due("and 2 does not see tick 8 by itself alone", x.sees(2, EAST, 8), true);
        due("so that it goes on", x.follow(-1, 2), 4);
        due("were it 11, that would end there", x.follow(1 + 2048, 2), 5);
    }

    private static void firstThatFollows() {
        sentence("3 the first CAMERA that follows (NONE)");
        FloorEyes x = new FloorEyes();
        for (int e = 0; e < 12; e++) {
            x.camera(8, 6, 20, 1, true, e == 0 ? 4 : 0);
        }
        due("no walk", x.follow(-1, 3), NONE);
        addSteps(x, NORTH);
        due("nobody", x.follow(-1, 3), NONE);
        addSteps(x, EAST, WEST);
        due("the least that sees it", x.follow(-1, 3), 1);
        due("of a set", x.follow(1 << 11 | 1 << 5 | 1, 3), 5);
        due("the last", x.follow(1 << 11, 3), 11);
        due("the first camera, later", x.follow(1, 3), 0);
        due("it has no handover", x.follow(1, 2), 0);
    }

    private static void noWalk() {
        sentence("A FLOOR without walls; no CAMERAS, no WALK.");
        FloorEyes x = new FloorEyes();
        dueFollow(x, -1, 0, 0, 0, NONE);
        dueFollow(x, 0, 0, 0, 0, NONE);
        x.camera(0, 0, 20, 1, false, 1);
        dueFollow(x, 1, 0, 0, 0, NONE);
    }

    private static void setsOfNone() {
        sentence("Of the WALK and a SET what 0 STEPS that are SEEN, 1 the longest row that is not");
        FloorEyes x = new FloorEyes();
        x.camera(0, 0, 20, 1, false, 1);
        addSteps(x, EAST, WEST, NORTH);
        dueFollow(x, 0, 0, 3, 0, NONE);
        dueFollow(x, -2, 0, 3, 0, NONE);
        dueFollow(x, -1, 3, 0, 0, 0);
    }

    private static void otherWhat() {
        sentence("NoSuchElementException: another what.");
        FloorEyes x = new FloorEyes();
        for (int other : new int[] {-1, 4, 5, LEAST, GREATEST}) {
            dueThrow("no walk, what " + other, java.util.NoSuchElementException.class, () -> x.follow(0, other));
        }
        x.camera(0, 0, 20, 1, false, 1);
        addSteps(x, EAST);
        for (int other : new int[] {-1, 4, 5, LEAST, GREATEST}) {
            dueThrow("a walk, what " + other, java.util.NoSuchElementException.class, () -> x.follow(1, other));
        }
        dueFollow(x, 1, 1, 0, 0, 0);
    }
}
