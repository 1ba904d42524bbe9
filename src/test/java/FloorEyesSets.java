/** The sentences about SETS and about all ticks (10 to 14), at their bounds, each with a test of its own. */
public final class FloorEyesSets extends Checks {
    /** A cell that a narrow camera at (8, 6) sees by WAY 0, and one that it sees by WAY 4. */
    private static final int EAST = 16 * 6 + 10;
    private static final int WEST = 16 * 5 + 4;

    public static void main(String[] args) {
        readDocument(args);
        servesEachToldCell();
        servesButShutCells();
        servesAtEachTick();
        servesByRoundsOfEachLength();
        servesByWhatStandsNow();
        showsNoPrivateCell();
        showsNoPrivateCellAtAnyTick();
        setsOfNone();
        safeSetsOfOne();
        safeWhicheverIsLeftOut();
        safeOnlyIfItServes();
        cheapestBySum();
        cheapestByNumber();
        cheapestByBits();
        cheapestIsNone();
        cheapestOfTwelve();
        allTicksForServing();
        allTicksForRows();
        unseenByRoundsOfEachLength();
        unseenWithoutEnd();
        unseenByNone();
        unseenNever();
        blindCells();
        blindAtAnyTick();
        camerasThatThereAreNot();
        camerasThatComeLater();
        costs();
        end("sets hold at their bounds");
    }

    /** A camera at (8, 6) that looks at EAST at the named ticks of its round, and else to the WEST. */
    private static int addRound(FloorEyes x, int cost, int length, int... east) {
        int number = NONE;
        for (int tick = 0; tick < length; tick++) {
            int way = 4;
            for (int one : east) {
                way = one == tick ? 0 : way;
            }
            if (tick == 0) {
                number = x.camera(8, 6, 20, cost, true, way);
            } else {
                x.turn(number, way);
            }
        }
        return number;
    }

    /** A camera that looks at EAST at all ticks of its round but the named one. */
    private static void addRoundBut(FloorEyes x, int length, int away) {
        int[] east = new int[length - 1];
        int used = 0;
        for (int tick = 0; tick < length; tick++) {
            if (tick != away) {
                east[used] = tick;
                used++;
            }
        }
        addRound(x, 1, length, east);
    }

    private static void servesEachToldCell() {
        sentence("A SET of CAMERAS SERVES, if each TOLD CELL that is not SHUT is SEEN by one of them at each tick");
        FloorEyes x = new FloorEyes();
        x.camera(0, 0, 20, 1, false, 1);
        x.camera(0, 0, 20, 1, false, 1);
        x.mask(0, 0, true);
        x.mask(1, 191, true);
        due("nothing is told", x.serves(0, false), true);
        x.tell(0, true);
        due("the first cell is told: the first", x.serves(1, false), false);
        due("the first cell is told: the second", x.serves(2, false), true);
        x.tell(191, true);
        due("the last one too: the second", x.serves(2, false), false);
        due("the last one too: both, each sees one", x.serves(3, false), true);
        x.tell(0, false);
        due("the last one alone: the first", x.serves(1, false), true);
        due("the last one alone: none", x.serves(0, false), false);
    }

    private static void servesButShutCells() {
        sentence("each TOLD CELL that is not SHUT");
        FloorEyes x = new FloorEyes();
        x.tell(EAST, true);
        due("open", x.serves(0, false), false);
        x.shut(EAST, EAST, true);
        due("shut", x.serves(0, false), true);
        due("shut, cheapest", x.cheapest(true), 0);
        x.tell(WEST, true);
        due("shut, and another one is open", x.serves(0, false), false);
        x.shut(0, 191, true);
        due("all shut", x.serves(0, true), true);
        x.shut(EAST, EAST, false);
        due("open again", x.serves(0, false), false);
    }

    private static void servesAtEachTick() {
        sentence("is SEEN by one of them at each tick");
        for (int away = 0; away < 8; away++) {
            FloorEyes x = new FloorEyes();
            x.tell(EAST, true);
            addRoundBut(x, 8, away);
            addRound(x, 1, 8, away);
            due("but at tick " + away, x.serves(1, false), false);
            due("at tick " + away + " alone", x.serves(2, false), false);
            due("at tick " + away + " by the other", x.serves(3, false), true);
        }
    }

    private static void servesByRoundsOfEachLength() {
        sentence("is SEEN by one of them at each tick");
        FloorEyes x = new FloorEyes();
        x.tell(EAST, true);
        for (int length = 1; length <= 8; length++) {
            int[] all = {0, 1, 2, 3, 4, 5, 6, 7};
            int number = addRound(x, 1, length, all);
            due("always, by a round of " + length, x.serves(1 << number, false), true);
            due("unseen, by a round of " + length, x.unseen(EAST, 1 << number), 0);
            due("another cell, by a round of " + length, x.unseen(WEST, 1 << number), NONE);
            due("two rounds of which each would do", x.serves(1 << number | 1, true), length > 1);
        }
        x.tell(WEST, true);
        due("another cell is told too", x.serves(-1, false), false);
        due("which is never seen", x.unseen(WEST, -1), NONE);
    }

    private static void servesByWhatStandsNow() {
        sentence("A SET of CAMERAS SERVES");
        FloorEyes x = new FloorEyes();
        x.tell(EAST, true);
        due("no camera", x.serves(1, false), false);
        x.camera(8, 6, 20, 1, true, 0);
        due("a camera came", x.serves(1, false), true);
        x.turn(0, 4);
        due("it turns away", x.serves(1, false), false);
        addRound(x, 1, 2, 1);
        due("another one takes turns with it", x.serves(3, false), true);
        x.mask(1, EAST, true);
        due("a mask came", x.serves(3, false), false);
        x.mask(1, EAST, false);
        due("and went", x.cheapest(false), 3);
        x.shut(cell(9, 6), cell(9, 6), true);
        due("a wall came", x.serves(3, false), false);
        x.shut(cell(9, 6), cell(9, 6), false);
        due("and went", x.serves(3, false), true);
        x.hide(WEST, true);
        due("a private cell came", x.serves(3, false), false);
        x.hide(WEST, false);
        due("and went", x.serves(3, false), true);
        x.tell(15, true);
        due("another cell is told", x.cheapest(false), NONE);
        x.tell(15, false);
        due("and no more", x.cheapest(false), 3);
    }

    private static void showsNoPrivateCell() {
        sentence("and none SHOWS a PRIVATE CELL at any tick");
        FloorEyes x = new FloorEyes();
        x.camera(0, 0, 20, 1, false, 1);
        x.camera(0, 0, 20, 1, false, 1);
        for (int hidden : new int[] {0, 191}) {
            x.hide(hidden, true);
            due("cell " + hidden + " is private: none", x.serves(0, false), true);
            due("cell " + hidden + " is private: one", x.serves(1, false), false);
            x.mask(0, hidden, true);
            due("masked for it", x.serves(1, false), true);
            due("not for the other", x.serves(2, false), false);
            due("one of two shows it", x.serves(3, false), false);
            x.mask(0, hidden, false);
            x.hide(hidden, false);
            due("no more", x.serves(3, false), true);
        }
        x.hide(3, true);
        x.hide(5, true);
        x.mask(0, 5, true);
        x.mask(1, 3, true);
        due("each is masked for one: the first", x.serves(1, false), false);
        due("each is masked for one: the second", x.serves(2, false), false);
        FloorEyes y = new FloorEyes();
        y.camera(8, 6, 5, 1, false, 1);
        y.hide(cell(11, 10), true);
        due("shown by a corner, 5 away, and not seen", y.serves(1, false), false);
        due("not seen", y.sees(0, cell(11, 10), 0), false);
        y.shut(cell(11, 10), cell(11, 10), true);
        due("shown though it is shut", y.serves(1, false), false);
    }

    private static void showsNoPrivateCellAtAnyTick() {
        sentence("and none SHOWS a PRIVATE CELL at any tick");
        for (int tick = 0; tick < 8; tick++) {
            FloorEyes x = new FloorEyes();
            x.hide(EAST, true);
            addRound(x, 1, 8);
            addRound(x, 1, 8, tick);
            due("never", x.serves(1, false), true);
            due("at tick " + tick, x.serves(2, false), false);
            due("cheapest", x.cheapest(false), 0);
        }
    }

    private static void setsOfNone() {
        sentence("(a SET of none: if it SERVES)");
        FloorEyes x = new FloorEyes();
        due("nothing is told, no cameras", x.serves(0, true), true);
        x.camera(0, 0, 20, 1, false, 1);
        due("nothing is told", x.serves(0, true), true);
        x.hide(5, true);
        due("none shows what is private", x.serves(0, true), true);
        x.tell(7, true);
        due("a cell is told: serves", x.serves(0, false), false);
        due("a cell is told: safe", x.serves(0, true), false);
        due("bits of cameras that there are not", x.serves(-2, true), false);
        x.tell(7, false);
        due("bits of cameras that there are not", x.serves(-2, true), true);
    }

    private static void safeSetsOfOne() {
        sentence("It is SAFE, if it SERVES, and also whichever one of them is left out");
        FloorEyes x = new FloorEyes();
        x.camera(0, 0, 20, 1, false, 1);
        due("nothing is told", x.serves(1, true), true);
        x.tell(7, true);
        due("it serves", x.serves(1, false), true);
        due("none is left without it", x.serves(1, true), false);
        x.shut(7, 7, true);
        due("what is told is shut", x.serves(1, true), true);
    }

    private static void safeWhicheverIsLeftOut() {
        sentence("whichever one of them is left out");
        for (int key = 0; key < 12; key++) {
            FloorEyes x = new FloorEyes();
            for (int e = 0; e < 12; e++) {
                x.camera(0, 0, 20, 1, false, 1);
                if (e != key) {
                    x.mask(e, 9, true);
                }
            }
            x.tell(8, true);
            due("all may fail", x.serves(4095, true), true);
            x.tell(9, true);
            due("it serves with " + key, x.serves(4095, false), true);
            due("not without " + key, x.serves(4095 & ~(1 << key), false), false);
            due(key + " may not fail", x.serves(4095, true), false);
            int other = (key + 1) % 12;
            x.mask(other, 9, false);
            due("two see it", x.serves(4095, true), true);
            due("these two alone", x.serves(1 << key | 1 << other, true), true);
        }
    }

    private static void safeOnlyIfItServes() {
        sentence("It is SAFE, if it SERVES");
        FloorEyes x = new FloorEyes();
        for (int e = 0; e < 3; e++) {
            x.camera(0, 0, 20, 1, false, 1);
        }
        x.tell(8, true);
        x.hide(9, true);
        x.mask(0, 9, true);
        x.mask(1, 9, true);
        due("two that do not show it", x.serves(3, true), true);
        due("the third shows it, though it may be left out", x.serves(7, true), false);
        x.mask(2, 8, true);
        x.mask(2, 9, true);
        due("the third does not help", x.serves(5, true), false);
        due("the third does not harm", x.serves(7, true), true);
    }

    private static void cheapestBySum() {
        sentence("of all SETS that SERVE (or are SAFE) that of the least sum of COSTS");
        FloorEyes x = new FloorEyes();
        x.tell(EAST, true);
        addRound(x, 10000, 1, 0);
        due("10000", x.cheapest(false), 1);
        due("none is safe", x.cheapest(true), NONE);
        addRound(x, 5000, 2, 0);
        addRound(x, 4999, 2, 1);
        due("two for 9999", x.cheapest(false), 6);
        due("safe: all", x.cheapest(true), 7);
        addRound(x, 0, 1, 0);
        due("one for nothing", x.cheapest(false), 8);
        due("safe: two for 9999 and it", x.cheapest(true), 8 + 6);
        addRound(x, 9998, 1, 0);
        due("safe: one for 9998 and it", x.cheapest(true), 8 + 16);
    }

    private static void cheapestByNumber() {
        sentence("of several that of the fewest CAMERAS");
        FloorEyes x = new FloorEyes();
        x.tell(EAST, true);
        addRound(x, 2, 3, 0);
        addRound(x, 2, 3, 1);
        addRound(x, 2, 3, 2);
        due("three", x.cheapest(false), 7);
        addRound(x, 4, 3, 1, 2);
        due("two of the same sum", x.cheapest(false), 1 + 8);
        addRound(x, 6, 1, 0);
        due("one of the same sum", x.cheapest(false), 16);
        addRound(x, 0, 1);
        due("one that costs nothing and sees nothing does not come to it", x.cheapest(false), 16);
        x.tell(EAST, false);
        due("nothing is told: none is fewer than one for nothing", x.cheapest(false), 0);
        due("likewise safe", x.cheapest(true), 0);
    }

    private static void cheapestByBits() {
        sentence("of these that of the least bits");
        FloorEyes x = new FloorEyes();
        x.tell(EAST, true);
        addRound(x, 1, 2, 0);
        addRound(x, 2, 4, 0, 2);
        addRound(x, 2, 4, 1, 3);
        addRound(x, 3, 2, 1);
        // 0 and 3, for 4, are the bits 9; 1 and 2, for 4, are the bits 6; 0 and 2, for 3, are the bits 5.
        due("0 and 2 for 3", x.cheapest(false), 5);
        x.mask(0, EAST, true);
        due("1 and 2", x.cheapest(false), 6);
        FloorEyes y = new FloorEyes();
        y.tell(EAST, true);
        addRound(y, 1, 2, 0);
        addRound(y, 2, 3, 0, 1);
        addRound(y, 2, 3, 2);
        addRound(y, 3, 2, 1);
        due("1 and 2 are less bits than 0 and 3", y.cheapest(false), 6);
        FloorEyes z = new FloorEyes();
        z.tell(EAST, true);
        for (int e = 0; e < 12; e++) {
            addRound(z, 7, 1, 0);
        }
        due("one of twelve alike", z.cheapest(false), 1);
        due("two of twelve alike", z.cheapest(true), 3);
        z.mask(0, EAST, true);
        due("one of eleven", z.cheapest(false), 2);
    }

    private static void cheapestIsNone() {
        sentence("none, if there is none");
        FloorEyes x = new FloorEyes();
        due("nothing is told: the set of none, which is one", x.cheapest(false), 0);
        x.tell(191, true);
        due("no cameras", x.cheapest(false), NONE);
        due("no cameras, safe", x.cheapest(true), NONE);
        x.camera(0, 0, 20, 1, false, 1);
        due("one", x.cheapest(false), 1);
        due("one, safe", x.cheapest(true), NONE);
        x.hide(0, true);
        due("it shows what is private", x.cheapest(false), NONE);
    }

    private static void cheapestOfTwelve() {
        sentence("CHEAPEST: of all SETS that SERVE (or are SAFE)");
        FloorEyes x = new FloorEyes();
        for (int e = 0; e < 12; e++) {
            x.camera(0, 0, 20, 10000, false, 1);
        }
        for (int cell = 0; cell < 12; cell++) {
            x.tell(cell, true);
            for (int e = 0; e < 12; e++) {
                if (e != cell) {
                    x.mask(e, cell, true);
                }
            }
        }
        due("each is needed", x.cheapest(false), 4095);
        due("none may fail", x.cheapest(true), NONE);
        due("cost", x.cost(4095), 120000);
        for (int cell = 0; cell < 12; cell++) {
            x.mask((cell + 1) % 12, cell, false);
        }
        due("every other one", x.cheapest(false), 0x555);
        due("all, each seen by two", x.cheapest(true), 4095);
    }

    private static void allTicksForServing() {
        sentence("what is asked for each tick is asked for 840 of them, from 0 on: all ROUNDS go by then");
        int[][] ends = {{0, 0, 0, 0}, {7, 2, 4, 6}, {6, 1, 3, 5}, {4, 0, 0, 0}, {0, 2, 1, 3}};
        for (int[] away : ends) {
            FloorEyes x = new FloorEyes();
            x.tell(EAST, true);
            addRoundBut(x, 8, away[0]);
            addRoundBut(x, 3, away[1]);
            addRoundBut(x, 5, away[2]);
            addRoundBut(x, 7, away[3]);
            // Rounds of 8, 3, 5 and 7 meet with any of their ticks once within 840.
            due("all are away at one tick", x.serves(15, false), false);
            due("and at no other one beside it", x.unseen(EAST, 15), 1);
            due("cheapest", x.cheapest(false), NONE);
            for (int left = 0; left < 4; left++) {
                due("fewer are away too", x.serves(15 & ~(1 << left), false), false);
            }
        }
        FloorEyes y = new FloorEyes();
        y.tell(EAST, true);
        addRoundBut(y, 8, 7);
        addRoundBut(y, 6, 0);
        due("rounds of 8 and 6: an odd and an even tick never meet", y.serves(3, false), true);
        addRoundBut(y, 4, 2);
        due("rounds of 8 and 4 likewise", y.serves(5, false), true);
        due("rounds of 6 and 4: 0 of 6 and 2 of 4 meet at 6", y.serves(6, false), false);
        due("all three", y.serves(7, false), true);
    }

    private static void allTicksForRows() {
        sentence("UNSEEN of a CELL and a SET: the longest row of ticks, one after the other without end");
        FloorEyes x = new FloorEyes();
        addRound(x, 1, 8, 1, 2, 3, 4, 5, 6);
        addRound(x, 1, 3, 1);
        addRound(x, 1, 5, 1, 2, 3);
        addRound(x, 1, 7, 1, 2, 3, 4, 5);
        due("from the last of 840 ticks to the first", x.unseen(EAST, 15), 2);
        FloorEyes y = new FloorEyes();
        addRound(y, 1, 8, 0, 4, 5, 6, 7);
        addRound(y, 1, 5, 0, 4);
        addRound(y, 1, 7, 0, 4, 5, 6);
        due("1, 2 and 3 of all", y.unseen(EAST, 7), 3);
    }

    private static void unseenByRoundsOfEachLength() {
        sentence("in which none of the SET SEES it");
        for (int length = 1; length <= 8; length++) {
            for (int tick = 0; tick < length; tick++) {
                FloorEyes x = new FloorEyes();
                addRound(x, 1, length, tick);
                due("once in " + length + ", at " + tick, x.unseen(EAST, 1), length - 1);
            }
        }
        FloorEyes x = new FloorEyes();
        addRound(x, 1, 8, 0, 3);
        due("rows of 2 and of 4", x.unseen(EAST, 1), 4);
        addRound(x, 1, 8, 5);
        due("rows of 2, 1 and 2", x.unseen(EAST, 3), 2);
        due("one alone", x.unseen(EAST, 2), 7);
    }

    private static void unseenWithoutEnd() {
        sentence("one after the other without end");
        FloorEyes x = new FloorEyes();
        addRound(x, 1, 8, 3, 4);
        due("from 5 on to 2 of the next round", x.unseen(EAST, 1), 6);
        addRound(x, 1, 4, 2);
        due("2, 3, 4 and 6 of 8", x.unseen(EAST, 3), 3);
    }

    private static void unseenByNone() {
        sentence("none, if it is never SEEN");
        FloorEyes x = new FloorEyes();
        due("no cameras", x.unseen(EAST, -1), NONE);
        addRound(x, 1, 8, 7);
        due("a set of none", x.unseen(EAST, 0), NONE);
        due("a cell that lies in no way", x.unseen(15, 1), NONE);
        due("once in 8", x.unseen(EAST, 1), 7);
        x.mask(0, EAST, true);
        due("masked", x.unseen(EAST, 1), NONE);
        x.mask(0, EAST, false);
        x.shut(EAST, EAST, true);
        due("shut", x.unseen(EAST, 1), NONE);
        x.shut(EAST, EAST, false);
        x.shut(cell(9, 6), cell(9, 6), true);
        due("behind a wall", x.unseen(EAST, 1), NONE);
    }

    private static void unseenNever() {
        sentence("UNSEEN (0: never; NONE: it is never SEEN).");
        FloorEyes x = new FloorEyes();
        addRound(x, 1, 2, 0);
        addRound(x, 1, 2, 1);
        due("one alone", x.unseen(EAST, 1), 1);
        due("by turns always seen", x.unseen(EAST, 3), 0);
        due("never seen", x.unseen(15, 3), NONE);
        dueIndex("-1", () -> x.unseen(-1, 3));
        dueIndex("192", () -> x.unseen(192, 3));
        dueIndex("192, a set of none", () -> x.unseen(192, 0));
    }

    private static void blindCells() {
        sentence("BLIND: how many CELLS that are not SHUT no CAMERA of a SET SEES at any tick.");
        FloorEyes x = new FloorEyes();
        due("no cameras", x.blind(-1), 192);
        x.camera(0, 0, 20, 1, false, 1);
        due("none of the set", x.blind(0), 192);
        due("all are seen", x.blind(1), 0);
        x.mask(0, 0, true);
        due("but the first", x.blind(1), 1);
        x.mask(0, 191, true);
        due("and the last", x.blind(1), 2);
        x.shut(191, 191, true);
        due("which is shut now", x.blind(1), 1);
        due("none of the set, one shut", x.blind(0), 191);
        x.shut(0, 191, true);
        due("all shut", x.blind(0), 0);
        due("all shut", x.blind(1), 0);
    }

    private static void blindAtAnyTick() {
        sentence("no CAMERA of a SET SEES at any tick");
        FloorEyes x = new FloorEyes();
        x.camera(8, 6, 2, 1, false, 0);
        due("two straight ahead are too far", x.blind(1), 192);
        int[] ways = {0, 0, 0, 1, 3, 5, 7};
        int[] due = {192, 192, 192, 191, 190, 189, 188};
        for (int i = 0; i < ways.length; i++) {
            x.turn(0, ways[i]);
            due("with way " + ways[i] + " as its " + (i + 2) + ".", x.blind(1), due[i]);
        }
        x.camera(0, 0, 2, 1, false, 1);
        due("two cameras", x.blind(3), 187);
        due("the second", x.blind(2), 191);
    }

    private static void camerasThatThereAreNot() {
        sentence("(bits; CAMERAS that there are not count for nothing)");
        for (int there : new int[] {1, 11, 12}) {
            FloorEyes x = new FloorEyes();
            for (int e = 0; e < there; e++) {
                x.camera(0, 0, 20, 3, false, 1);
            }
            x.tell(9, true);
            x.step(9);
            for (int others : new int[] {1 << there, 1 << 12, 1 << 31, -1 << there, 0x7FFFFFFF & -1 << there}) {
                String with = others + ", of " + there;
                due("serves " + with, x.serves(others, false), false);
                due("serves 1 and " + with, x.serves(others | 1, false), true);
                due("safe 1 and " + with, x.serves(others | 1, true), false);
                due("cost of " + with, x.cost(others), 0);
                due("cost of 1 and " + with, x.cost(others | 1), 3);
                due("unseen by " + with, x.unseen(9, others), NONE);
                due("unseen by 1 and " + with, x.unseen(9, others | 1), 0);
                due("blind of " + with, x.blind(others), 192);
                due("blind of 1 and " + with, x.blind(others | 1), 0);
                due("follow 0 by " + with, x.follow(others, 0), 0);
                due("follow 0 by 1 and " + with, x.follow(others | 1, 0), 1);
                due("follow 3 by " + with, x.follow(others, 3), NONE);
                due("follow 3 by 1 and " + with, x.follow(others | 1, 3), 0);
            }
            due("all bits cost", x.cost(-1), 3 * there);
            due("all bits are safe, from two on", x.serves(-1, true), there > 1);
            due("the cheapest has none of them", x.cheapest(false), 1);
        }
    }

    private static void camerasThatComeLater() {
        sentence("CAMERAS that there are not count for nothing");
        FloorEyes x = new FloorEyes();
        x.tell(9, true);
        for (int e = 0; e < 12; e++) {
            due("not yet: serves", x.serves(1 << e, false), false);
            due("not yet: cost", x.cost(1 << e), 0);
            x.camera(0, 0, 20, 1 + e, false, 1);
            due("now: serves", x.serves(1 << e, false), true);
            due("now: cost", x.cost(1 << e), 1 + e);
            due("now: unseen", x.unseen(9, 1 << e), 0);
            due("now: blind", x.blind(1 << e), 0);
        }
    }

    private static void costs() {
        sentence("What a SET costs.");
        FloorEyes x = new FloorEyes();
        due("no cameras", x.cost(-1), 0);
        for (int e = 0; e < 12; e++) {
            x.camera(0, 0, 1, e == 0 ? 0 : e == 11 ? 10000 : 1 << e, true, 0);
        }
        due("a set of none", x.cost(0), 0);
        due("the first, for nothing", x.cost(1), 0);
        due("the second", x.cost(2), 2);
        due("the last", x.cost(1 << 11), 10000);
        due("all", x.cost(4095), 2046 + 10000);
        due("all, and it need not serve", x.serves(4095, false), true);
    }
}
