/** For each promise of the document: ordinary inputs, the edges that it names, wrong inputs. */
public final class PromiseTests {
    private static final int NONE = -1, UNKNOWN = -2, OUTSIDE = -3, NOT = -4, FULL = -5;
    private static final int NULL = -11, SIZE = -12, INDEX = -13, STORE = -14, EMPTY = -15;
    private static final int LOW = Integer.MIN_VALUE, HIGH = Integer.MAX_VALUE;
    /** Three states; a breaking way back and forth; a way by number from any. */
    private static final String WALK = "state 4 -8 0 99;state 40 8 -99 1;state 0 0 16 3;"
        + "way 0 1 4 trigger 0;breaking;way 1 2 8 trigger 1;way 2 0 0 after 3;way 9 2 16 over 2 50;mask 5 4";

    public static void main(String[] args) {
        newObject();
        writeAndErase();
        faultsOfTokens();
        faultsOfStates();
        faultsOfWays();
        faultsOfBreakingAndMask();
        faultsOfCounts();
        figureDoesClauses();
        figureBeginsAnew();
        figureRefused();
        valueOfStates();
        wayParts();
        setNumbers();
        pullTriggers();
        stepFrames();
        stepConditions();
        stepOrderOfWays();
        stepBreaking();
        stepLayersShareTriggers();
        stepLasted();
        undoEight();
        undoRestoresAll();
        keepAndBack();
        layerParts();
        sharesOfBlend();
        bitsOfShares();
        bitsOfSmallShares();
        limbs();
        limbsMasked();
        exactOfSmallLimbs();
        wholeOfShares();
        reachAndDead();
        untilFrames();
        pulledState();
        shelfMade();
        layMarks();
        lookAndLift();
        likenessOfShelves();
        handMarks();
        dropShelves();
        countThings();
        noStates();
        Check.finish();
    }

    private static void due(String what, long got, long want) {
        Check.due(what, got, want);
    }

    // Promise 1

    private static void newObject() {
        MotionStates x = new MotionStates();
        int[] first = {0, 0, 0, 100, 100, 100, 0, 16, 0, 0, 0};
        for (int what = 0; what < first.length; what++) {
            due("new: count(" + what + ")", x.count(what), first[what]);
        }
        due("new: undo", x.undo(), NOT);
        due("new: back", x.back(0), NOT);
        for (int shelf = 0; shelf < 3; shelf++) {
            due("new: shelf missing", x.look(shelf, 0), NULL);
        }
        MotionStates other = new MotionStates();
        other.set(0, 5);
        due("objects are apart", x.count(3), 100);
    }

    // Promises 2, 3

    private static void writeAndErase() {
        MotionStates x = new MotionStates();
        due("write(-1)", x.write(-1), OUTSIDE);
        due("write(256)", x.write(256), OUTSIDE);
        due("write low", x.write(LOW), OUTSIDE);
        due("write high", x.write(HIGH), OUTSIDE);
        due("erase nothing", x.erase(), 0);
        due("write(0)", x.write(0), 1);
        due("write(255)", x.write(255), 2);
        for (int i = 3; i <= 200; i++) {
            due("write", x.write(' '), i);
        }
        due("write, full", x.write('a'), FULL);
        due("write, full and outside", x.write(256), OUTSIDE);
        due("letters", x.count(10), 200);
        due("erase full", x.erase(), 200);
        due("letters erased", x.count(10), 0);
        due("erase again", x.erase(), 0);
        due("write again", x.write('a'), 1);
    }

    // Promise 4

    /** The FAULT of a text, told behind another one (or none) on an object of its own: 512 calls are soon made. */
    private static void faultIs(String ahead, String text, int place) {
        MotionStates x = ahead.isEmpty() ? new MotionStates() : Check.told(ahead);
        Check.write(x, text);
        due("fault of '" + text + "'", x.fault(), place);
        due("fault again of '" + text + "'", x.fault(), place);
        due("letters of '" + text + "'", x.erase(), text.length());
    }

    private static void faultsOfTokens() {
        faultIs("", "", 0);
        faultIs("", "   ", 3);
        faultIs("", "figure", NONE);
        faultIs("", "  figure  ", NONE);
        faultIs("", "figures", 0);
        faultIs("", "figur", 0);
        faultIs("", "figurez", 0);
        faultIs("", "zfigure", 0);
        faultIs("", "pigure", 0);
        faultIs("", "xtate 0 0 0 0", 0);
        faultIs("", "figurea", 0);
        faultIs("", "figure`", 6);
        faultIs("", "figure{", 6);
        faultIs("", "figure/", 6);
        faultIs("", "figure:", 6);
        faultIs("", "Figure", 0);
        faultIs("", "figureE", 6);
        faultIs("", "figure figure", 7);
        faultIs("", "figure;", 7);
        faultIs("", "figure; ", 8);
        faultIs("", ";figure", 0);
        faultIs("", "figure;;figure", 7);
        faultIs("", "figure ; figure", NONE);
        faultIs("", "figure.", 6);
        faultIs("", "figure 0", 7);
        faultIs("", "figure\tfigure", 6);
        faultIs("", "\tfigure", 0);
        faultIs("", "figure" + (char) 160, 6);
        faultIs("", "figure" + (char) 0, 6);
        faultIs("", "7", 0);
        faultIs("", "stand 1", 0);
        faultIs("", "walk", 0);
        faultIs("", "mask 1 2;figurefigure", 9);
    }

    private static void faultsOfStates() {
        faultIs("", "state 0 0 0 0", NONE);
        faultIs("", "state0 0 0 0", NONE);
        faultIs("", "state-99-99-99-99", NONE);
        faultIs("", "state 99 - 99 00 -0", NONE);
        faultIs("", "state", 5);
        faultIs("", "state ", 6);
        faultIs("", "state 0 0 0", 11);
        faultIs("", "state 0 0 0 ", 12);
        faultIs("", "state 0 0 0 -", 13);
        faultIs("", "state 0 0 0;", 11);
        faultIs("", "state 0 0 0 0 0", 14);
        faultIs("", "state 0 0 0 100", 12);
        faultIs("", "state 0 0 0 001", 12);
        faultIs("", "state 0 0 0 -100", 13);
        faultIs("", "state 0 0 0 - 100", 14);
        faultIs("", "state --1 0 0 0", 7);
        faultIs("", "state +1 0 0 0", 6);
        faultIs("", "state a 0 0 0", 6);
        faultIs("", "state 1a 0 0 0", 7);
        faultIs("", "state 1.5 0 0", 7);
        faultIs("", "state 0 0 0 99999999999999999999", 12);
    }

    private static void faultsOfWays() {
        String two = "state 0 0 0 0;state 1 1 1 1";
        faultIs(two, "way 0 1 8 after 0", NONE);
        faultIs(two, "way 01 00 08 after 99", NONE);
        faultIs(two, "way09 1 16after7", NONE);
        faultIs(two, "way 1 1 0 after 0", NONE);
        faultIs(two, "way 2 0 0 after 0", 4);
        faultIs(two, "way 8 0 0 after 0", 4);
        faultIs(two, "way 10 0 0 after 0", 4);
        faultIs(two, "way -1 0 0 after 0", 4);
        faultIs(two, "way 009 0 0 after 0", 4);
        faultIs(two, "way 0 2 0 after 0", 6);
        faultIs(two, "way 0 9 0 after 0", 6);
        faultIs(two, "way 0 - 1 0 after 0", 6);
        for (int n = 0; n < 100; n++) {
            boolean fits = n == 0 || n == 1 || n == 2 || n == 4 || n == 8 || n == 16;
            faultIs(two, "way 0 1 " + n + " after 0", fits ? NONE : 8);
        }
        faultIs(two, "way 0 1 016 after 0", 8);
        faultIs(two, "way 0 1 after 0", 8);
        faultIs(two, "way", 3);
        faultIs(two, "way;figure", 3);
        faultIs(two, "way 0", 5);
        faultIs(two, "way 0;figure", 5);
        faultIs(two, "way 0 1", 7);
        faultIs(two, "way 0 1;figure", 7);
        faultIs(two, "way 0 1 4;figure", 9);
        faultIs(two, "way 0 1 4 after;figure", 15);
        faultIs(two, "way 0 1 4 trigger;figure", 17);
        faultIs(two, "way 0 1 4 afte 0", 10);
        faultIs(two, "way 0 1 4 state 0", 10);
        faultIs(two, "way 0 1 4", 9);
        faultIs(two, "way 0 1 4 after", 15);
        faultIs(two, "way 0 1 4 after -1", 16);
        faultIs(two, "way 0 1 4 after 100", 16);
        faultIs(two, "way 0 1 4 after 1 1", 18);
        faultIs(two, "way 0 1 4 over 2 -99", NONE);
        faultIs(two, "way 0 1 4 over 3 0", 15);
        faultIs(two, "way 0 1 4 over -1 0", 15);
        faultIs(two, "way 0 1 4 over 0", 16);
        faultIs(two, "way 0 1 4 over 0 100", 17);
        faultIs(two, "way 0 1 4 over 0 - 100", 19);
        faultIs(two, "way 0 1 4 under 2 99", NONE);
        faultIs(two, "way 0 1 4 under 0 - 9", NONE);
        faultIs(two, "way 0 1 4 under 3 0", 16);
        faultIs(two, "way 0 1 4 under 0 ;", 18);
        faultIs(two, "way 0 1 4 trigger 2", NONE);
        faultIs(two, "way 0 1 4 trigger 3", 18);
        faultIs(two, "way 0 1 4 trigger", 17);
        faultIs(two, "way 0 1 4 trigger 0 0", 20);
        faultIs(two, "way 2 0 0 after 0;state 0 0 0 0", 4);
        faultIs(two, "state 0 0 0 0;way 2 2 0 after 0", NONE);
        faultIs(two, "figure;way 0 0 0 after 0", 11);
        faultIs(two, "figure;way 9 0 0 after 0", 13);
        faultIs(two, "figure;state 0 0 0 0;way 0 0 0 after 0;way 0 1 0 after 0", 45);
    }

    private static void faultsOfBreakingAndMask() {
        faultIs("", "breaking", 0);
        faultIs("", "state 0 0 0 0;breaking", 14);
        faultIs("", "state 0 0 0 0;way 0 0 0 after 0;breaking;breaking", NONE);
        faultIs("", "state 0 0 0 0;way 0 0 0 after 0;figure;breaking", 39);
        faultIs("", "state 0 0 0 0;way 0 0 0 after 0 breaking", 32);
        faultIs("", "mask 0 0", NONE);
        faultIs("", "mask15 16", NONE);
        faultIs("", "mask 16 0", 5);
        faultIs("", "mask 0 17", 7);
        faultIs("", "mask 0", 6);
        faultIs("", "mask", 4);
        faultIs("", "mask;figure", 4);
        faultIs("", "mask 0;figure", 6);
        faultIs("", "mask -1 0", 5);
        faultIs("", "mask 1 -1", 7);
        faultIs("", "mask 1 1 1", 9);
        String way = "state 0 0 0 0;way 0 0 0 after 0";
        faultIs(way, "breaking", NONE);
        faultIs(way, "breaking 1", 9);
    }

    private static void faultsOfCounts() {
        String six = "state0 0 0 0;".repeat(5) + "state0 0 0 0";
        faultIs("", six, NONE);
        faultIs("", six + ";state", 78);
        faultIs("", six + ";mask 1 1;state 0 0 0 0", 87);
        faultIs("", six + ";figure;state 0 0 0 0", NONE);
        faultIs(six, "state 0 0 0 0", 0);
        faultIs(six, "figure;" + six, NONE);
        faultIs(six, "way 5 5 0 after 0", NONE);
        faultIs(six, "way 6 5 0 after 0", 4);
        String way = "way9 0 0after0;";
        String twelve = "state 0 0 0 0;" + way.repeat(11) + "way9 0 0after0";
        due("twelve ways", Check.told(twelve).count(1), 12);
        faultIs(twelve, "mask 0 0;way 0 0 0 after 0", 9);
        faultIs(twelve, "figure;state 0 0 0 0;way 0 0 0 after 0", NONE);
        faultIs("", "figure;".repeat(23) + "figure", NONE);
        faultIs("", "figure;".repeat(24) + "figure", 167);
        faultIs("", "figure;".repeat(24), 167);
        faultIs("", "state 0 0 0" + " ".repeat(189), 200);
        faultIs("", " ".repeat(187) + "state 0 0 0 0", NONE);
        faultIs("", " ".repeat(189) + "state 0 0 0", 200);
        MotionStates erased = new MotionStates();
        Check.write(erased, "state 0 0 0 0");
        erased.erase();
        Check.write(erased, "state 0 0 0 ");
        due("letters of an erased text are not read", erased.fault(), 12);
    }

    // Promise 5

    private static void figureDoesClauses() {
        MotionStates x = new MotionStates();
        Check.write(x, WALK);
        due("figure", x.figure(), 9);
        due("text is empty", x.count(10), 0);
        due("states", x.count(0), 3);
        due("ways", x.count(1), 4);
        due("mask", x.count(6), 5);
        due("weight", x.count(7), 4);
        Check.write(x, "state 7 7 7 7;breaking;mask 1 2;mask 3 0");
        due("figure, more", x.figure(), 4);
        due("a state more", x.count(0), 4);
        due("told earlier stays", x.value(1, 2), 1);
        due("the way told last breaks", x.way(3, 3), 1);
        due("others do not", x.way(2, 3), 0);
        due("the latest mask", x.count(6), 3);
        due("the latest weight", x.count(7), 0);
        Check.write(x, "figure;state 1 2 3 4");
        due("figure, anew", x.figure(), 2);
        due("one state", x.count(0), 1);
        due("no ways", x.count(1), 0);
        due("mask at first", x.count(6), 0);
        due("weight at first", x.count(7), 16);
        due("its value", x.value(0, 3), 104);
        Check.write(x, "mask 2 3;figure");
        due("figure last", x.figure(), 2);
        due("no states", x.count(0), 0);
        due("no mask", x.count(6), 0);
        due("weight 16", x.count(7), 16);
        Check.write(x, "state 1 1 1 1;way 0 0 1 after 1;breaking;figure;state 2 2 2 2;way 0 0 1 after 1");
        x.figure();
        due("a way told anew is not breaking", x.way(0, 3), 0);
        MotionStates y = Check.told("state 1 1 1 1;state 80 80 80 80;way 0 1 0 after 0;way 1 0 0 after 0");
        Check.write(y, "figure;state 4 4 4 4;state 8 8 8 8");
        y.figure();
        due("ways that are no more are not taken", y.step(1), 0);
        due("nor lead anywhere", y.reach(0), 1);
        due("nor from anywhere", y.dead(), 3);
        due("no such way", y.way(0, 0), UNKNOWN);
        Check.write(y, "figure;state 4 4 4 4");
        y.figure();
        due("a state that is no more", y.value(1, 0), UNKNOWN);
        due("has no share", y.bits(0, 1), UNKNOWN);
    }

    private static void figureBeginsAnew() {
        MotionStates x = Check.told(WALK);
        x.set(0, 5);
        x.set(2, 60);
        x.pull(0);
        x.pull(2);
        x.keep(0);
        x.keep(1);
        x.step(3);
        x.shelf(0, 0, 2);
        x.shelf(1, 1, 0);
        x.lay(0, 0, 1, 1);
        Check.write(x, "mask 9 9");
        due("figure", x.figure(), 1);
        for (int layer = 0; layer < 2; layer++) {
            int[] parts = {0, 0, 0, 0, 1, NONE};
            for (int what = 0; what < 6; what++) {
                due("anew: layer(" + layer + ", " + what + ")", x.layer(layer, what), parts[what]);
            }
            due("anew: share 0", x.share(layer, 0), 65536);
            due("anew: share 1", x.share(layer, 1), 0);
            due("anew: share 2", x.share(layer, 2), 0);
        }
        due("anew: triggers", x.count(2), 0);
        due("anew: number 0", x.count(3), 100);
        due("anew: number 2", x.count(5), 100);
        due("anew: undo", x.undo(), NOT);
        due("anew: undoable", x.count(9), 0);
        due("anew: back 0", x.back(0), NOT);
        due("anew: back 1", x.back(1), NOT);
        due("anew: shelf 0", x.look(0, 0), NULL);
        due("anew: shelf 1", x.drop(1), NULL);
        due("anew: things", x.count(8), 0);
        due("anew: states stay", x.count(0), 3);
    }

    private static void figureRefused() {
        MotionStates x = Check.told(WALK);
        x.set(0, 5);
        x.keep(0);
        x.shelf(0, 0, 1);
        Check.write(x, "figure;state 1 1 1 1;mask 1 1;oh");
        due("fault", x.fault(), 30);
        due("figure refused", x.figure(), NOT);
        due("text stays", x.count(10), 32);
        due("states stay", x.count(0), 3);
        due("ways stay", x.count(1), 4);
        due("mask stays", x.count(6), 5);
        due("values stay", x.value(0, 0), 104);
        due("number stays", x.count(3), 105);
        due("kept stays", x.back(0), 0);
        due("shelf stays", x.drop(0), 1);
        MotionStates y = new MotionStates();
        due("figure of no text", y.figure(), NOT);
        Check.write(y, "state 1 1 1 1");
        due("fault does nothing", y.fault(), NONE);
        due("no states yet", y.count(0), 0);
        due("figure", y.figure(), 1);
        due("figure again, no text", y.figure(), NOT);
        Check.write(y, "figure;mask 1 1;way");
        due("a faulty text", y.fault(), 19);
        y.erase();
        Check.write(y, "state 2 2 2 2");
        due("figure behind an erased text", y.figure(), 1);
        due("the erased text did nothing", y.count(0), 2);
        due("its mask neither", y.count(6), 0);
    }

    // Promise 6

    private static void valueOfStates() {
        MotionStates x = Check.told("state 0 99 - 99 -1;state 10 20 30 40");
        int[] want = {100, 199, 1, 99, 110, 120, 130, 140};
        for (int i = 0; i < 8; i++) {
            due("value " + i, x.value(i / 4, i % 4), want[i]);
        }
        due("value(2, 0)", x.value(2, 0), UNKNOWN);
        due("value(-1, 0)", x.value(-1, 0), UNKNOWN);
        due("value(0, 4)", x.value(0, 4), UNKNOWN);
        due("value(0, -1)", x.value(0, -1), UNKNOWN);
        due("value low high", x.value(LOW, HIGH), UNKNOWN);
        due("value high low", x.value(HIGH, LOW), UNKNOWN);
    }

    // Promise 7

    private static void wayParts() {
        MotionStates x = Check.told("state 0 0 0 0;state 0 0 0 0;way 0 1 8 after 33;way 9 0 16 over 2 -99;breaking;"
            + "way 1 1 1 under 1 7;way 1 0 0 trigger 2;breaking");
        int[][] want = {{0, 1, 8, 0, 0, 0, 133}, {9, 0, 16, 1, 1, 2, 1}, {1, 1, 1, 0, 2, 1, 107}, {1, 0, 0, 1, 3, 2, 100}};
        for (int way = 0; way < want.length; way++) {
            for (int what = 0; what < 7; what++) {
                due("way(" + way + ", " + what + ")", x.way(way, what), want[way][what]);
            }
        }
        due("way(4, 0)", x.way(4, 0), UNKNOWN);
        due("way(-1, 0)", x.way(-1, 0), UNKNOWN);
        due("way(4, 7)", x.way(4, 7), UNKNOWN);
        due("way(0, 7)", x.way(0, 7), OUTSIDE);
        due("way(0, -1)", x.way(0, -1), OUTSIDE);
        due("way(0, high)", x.way(0, HIGH), OUTSIDE);
        due("way(low, 0)", x.way(LOW, 0), UNKNOWN);
    }

    // Promise 8

    private static void setNumbers() {
        MotionStates x = Check.told(WALK);
        due("set(0, 99)", x.set(0, 99), 100);
        due("set(0, -99)", x.set(0, -99), 199);
        due("set(0, 0)", x.set(0, 0), 1);
        due("set(0, 0) again", x.set(0, 0), NOT);
        due("set(1, 7)", x.set(1, 7), 100);
        due("set(2, -7)", x.set(2, -7), 100);
        due("number 0", x.count(3), 100);
        due("number 1", x.count(4), 107);
        due("number 2", x.count(5), 93);
        due("set(3, 0)", x.set(3, 0), UNKNOWN);
        due("set(-1, 0)", x.set(-1, 0), UNKNOWN);
        due("set(3, 100)", x.set(3, 100), UNKNOWN);
        due("set(0, 100)", x.set(0, 100), OUTSIDE);
        due("set(0, -100)", x.set(0, -100), OUTSIDE);
        due("set(0, low)", x.set(0, LOW), OUTSIDE);
        due("set(high, low)", x.set(HIGH, LOW), UNKNOWN);
        due("refused ones are not undone", x.count(9), 5);
    }

    // Promise 9

    private static void pullTriggers() {
        MotionStates x = Check.told(WALK);
        due("pull(2)", x.pull(2), 1);
        due("triggers", x.count(2), 4);
        due("pull(2) again", x.pull(2), NOT);
        due("pull(1)", x.pull(1), 1);
        due("pull(0)", x.pull(0), 1);
        due("all triggers", x.count(2), 7);
        due("pull(3)", x.pull(3), UNKNOWN);
        due("pull(-1)", x.pull(-1), UNKNOWN);
        due("pull(32)", x.pull(32), UNKNOWN);
        due("undoable", x.count(9), 3);
    }

    // Promise 10

    private static void stepFrames() {
        MotionStates x = Check.told(WALK);
        due("step(0)", x.step(0), OUTSIDE);
        due("step(100)", x.step(100), OUTSIDE);
        due("step(-1)", x.step(-1), OUTSIDE);
        due("step(low)", x.step(LOW), OUTSIDE);
        due("step(99)", x.step(99), 0);
        due("lasted", x.layer(0, 1), 99);
        due("lasted, layer 1", x.layer(1, 1), 99);
        x.pull(0);
        due("step(1) by a trigger", x.step(1), 1);
        due("the trigger served once", x.count(2), 0);
        due("layer 1 did not get it", x.layer(1, 0), 0);
        due("lasted anew", x.layer(0, 1), 1);
        due("done", x.layer(0, 3), 1);
        due("undoable", x.count(9), 3);
        due("step(3)", x.step(3), 1);
        due("blend is over", x.layer(0, 4), 1);
        due("lasted goes on", x.layer(0, 1), 4);
    }

    private static void stepConditions() {
        MotionStates x = Check.told("state 0 0 0 0;state 0 0 0 0;state 0 0 0 0;way 0 1 0 after 3;way 1 2 0 over 0 5;way 2 0 0 under 1 -5");
        due("after 3: three frames", x.step(3), 0);
        due("after 3: the fourth", x.step(1), 1);
        due("0 frames: lasted", x.layer(0, 1), 1);
        due("0 frames: steady", x.layer(0, 4), 1);
        due("0 frames: share", x.share(0, 1), 65536);
        due("0 frames: other share", x.share(0, 0), 0);
        x.set(0, 5);
        due("over 5: not by 5", x.step(1), 1);
        x.set(0, 6);
        due("over 5: by 6", x.step(1), 2);
        x.set(1, -5);
        due("under -5: not by -5", x.step(1), 2);
        x.set(1, -6);
        due("under -5: by -6", x.step(1), 0);
        MotionStates y = Check.told("state 0 0 0 0;state 0 0 0 0;way 0 1 0 after 0;way 1 0 0 after 1");
        due("after 0: at once", y.step(1), 1);
        due("after 1: after one", y.step(1), 0);
    }

    private static void stepOrderOfWays() {
        MotionStates x = Check.told("state 0 0 0 0;state 0 0 0 0;state 0 0 0 0;way 1 2 0 after 0;way 0 0 2 after 0;"
            + "way 9 2 0 trigger 0;way 0 1 0 trigger 0;way 0 1 0 after 5");
        x.pull(0);
        due("the first by number", x.step(1), 2);
        due("from any, but to itself", x.step(1), 2);
        MotionStates y = Check.told("state 0 0 0 0;state 0 0 0 0;way 9 0 0 trigger 0;way 0 1 0 trigger 0");
        y.pull(0);
        due("a way to itself uses up nothing", y.step(1), 1);
        due("the trigger is gone", y.count(2), 0);
        due("layer 1 stays", y.layer(1, 0), 0);
        MotionStates z = Check.told("state 0 0 0 0;state 0 0 0 0;way 0 1 0 over 0 5;way 0 1 2 trigger 1");
        z.set(0, 9);
        z.pull(1);
        due("taken by number", z.step(1), 1);
        due("a trigger of a way not taken stays", z.count(2), 2);
    }

    private static void stepBreaking() {
        MotionStates x = Check.told("state 0 0 0 0;state 0 0 0 0;state 0 0 0 0;way 0 1 8 trigger 0;breaking;way 1 2 4 trigger 1;way 2 0 2 trigger 2");
        x.pull(0);
        x.step(2);
        due("half a blend: way", x.layer(0, 5), 0);
        x.pull(1);
        due("a breaking one is broken", x.step(1), 2);
        due("by way", x.layer(0, 5), 1);
        due("frames", x.layer(0, 2), 4);
        due("done", x.layer(0, 3), 1);
        due("share 0: 3/4 of 3/4", x.share(0, 0), 36864);
        due("share 1: 3/4 of 1/4", x.share(0, 1), 12288);
        due("share 2: 1/4", x.share(0, 2), 16384);
        x.pull(2);
        due("another is not", x.step(2), 2);
        due("its trigger waits", x.count(2), 4);
        due("nor in its last frame", x.step(1), 2);
        due("steady behind it", x.layer(0, 4), 1);
        due("then it goes on", x.step(1), 0);
        due("its trigger served", x.count(2), 0);
    }

    private static void stepLayersShareTriggers() {
        MotionStates x = Check.told("state 0 0 0 0;state 0 0 0 0;way 0 1 0 trigger 0;way 1 0 1 trigger 1");
        x.pull(0);
        x.step(1);
        due("layer 0 first", x.layer(0, 0), 1);
        due("layer 1 not", x.layer(1, 0), 0);
        x.pull(0);
        due("layer 0 cannot", x.step(1), 1);
        due("layer 1 can", x.layer(1, 0), 1);
        due("layer 1 used it", x.count(2), 0);
        x.pull(1);
        due("layer 0 again", x.step(1), 0);
        due("layer 1 not again", x.layer(1, 0), 1);
    }

    private static void stepLasted() {
        MotionStates x = Check.told("state 0 0 0 0;state 0 0 0 0;way 0 1 0 trigger 0");
        for (int i = 0; i < 101; i++) {
            x.step(99);
        }
        due("9999", x.layer(0, 1), 9999);
        x.undo();
        x.step(98);
        due("9998", x.layer(0, 1), 9998);
        x.step(99);
        due("9999 at most", x.layer(0, 1), 9999);
        due("9999 at most, layer 1", x.layer(1, 1), 9999);
        x.pull(0);
        x.step(1);
        due("anew", x.layer(0, 1), 1);
    }

    // Promise 11

    private static void undoEight() {
        MotionStates x = Check.told(WALK);
        for (int i = 1; i <= 10; i++) {
            x.set(0, i);
            due("undoable", x.count(9), i < 8 ? i : 8);
        }
        for (int left = 7; left >= 0; left--) {
            due("undo", x.undo(), left);
            due("number", x.count(3), 100 + left + 2);
        }
        due("undo no more", x.undo(), NOT);
        due("number stays", x.count(3), 102);
        x.set(0, 50);
        due("undo again", x.undo(), 0);
        due("number again", x.count(3), 102);
    }

    private static void undoRestoresAll() {
        MotionStates x = Check.told(WALK);
        x.pull(0);
        x.step(2);
        int[] lasting = new int[12];
        for (int i = 0; i < 12; i++) {
            lasting[i] = x.layer(i / 6, i % 6);
        }
        int share = x.share(0, 1);
        x.step(1);
        x.pull(1);
        x.set(2, 70);
        x.step(40);
        due("undo step", x.undo(), 5);
        due("undo set", x.undo(), 4);
        due("number", x.count(5), 100);
        due("trigger yet", x.count(2), 2);
        due("undo pull", x.undo(), 3);
        due("no trigger", x.count(2), 0);
        due("undo step", x.undo(), 2);
        for (int i = 0; i < 12; i++) {
            due("layer as it was", x.layer(i / 6, i % 6), lasting[i]);
        }
        due("share as it was", x.share(0, 1), share);
        x.step(1);
        due("its blend goes on from the same begin", x.share(0, 1), 49152);
        due("undo the step", x.undo(), 2);
        due("undo the step before", x.undo(), 1);
        due("trigger is pulled again", x.count(2), 1);
        due("undo pull", x.undo(), 0);
        due("not pulled", x.count(2), 0);
        x.pull(0);
        x.step(2);
        x.pull(1);
        x.step(1);
        due("broken", x.layer(0, 0), 2);
        x.undo();
        due("not broken", x.layer(0, 0), 1);
        x.undo();
        x.step(1);
        due("the blend goes on from its own begin", x.share(0, 0), 16384);
    }

    // Promises 12, 13

    private static void keepAndBack() {
        MotionStates x = Check.told(WALK);
        due("keep(2)", x.keep(2), UNKNOWN);
        due("keep(-1)", x.keep(-1), UNKNOWN);
        due("back(2)", x.back(2), UNKNOWN);
        due("back(-1)", x.back(-1), UNKNOWN);
        due("back(0)", x.back(0), NOT);
        x.set(0, 3);
        x.pull(0);
        due("keep(1)", x.keep(1), 0);
        due("keep leaves what can be undone", x.count(9), 2);
        due("back(0), only 1 was", x.back(0), NOT);
        x.step(2);
        x.set(0, 4);
        x.pull(2);
        due("keep(0)", x.keep(0), 1);
        x.step(99);
        due("back(1)", x.back(1), 0);
        due("number", x.count(3), 103);
        due("trigger", x.count(2), 1);
        due("nothing can be undone", x.undo(), NOT);
        due("lasted", x.layer(0, 1), 0);
        due("back(0)", x.back(0), 1);
        due("number", x.count(3), 104);
        due("trigger", x.count(2), 4);
        due("done", x.layer(0, 3), 2);
        due("share", x.share(0, 1), 32768);
        x.step(1);
        due("the blend goes on", x.share(0, 1), 49152);
        due("undo leaves what was kept", x.undo(), 0);
        x.step(50);
        due("back(0) again", x.back(0), 1);
        due("done again", x.layer(0, 3), 2);
        due("keep(0) anew", x.keep(0), 1);
        x.shelf(0, 0, 1);
        x.back(1);
        due("shelves are not kept", x.drop(0), 1);
    }

    // Promise 14

    private static void layerParts() {
        MotionStates x = Check.told(WALK);
        x.pull(0);
        x.step(1);
        int[] blend = {1, 1, 4, 1, 0, 0};
        int[] steady = {0, 1, 0, 0, 1, NONE};
        for (int what = 0; what < 6; what++) {
            due("layer(0, " + what + ")", x.layer(0, what), blend[what]);
            due("layer(1, " + what + ")", x.layer(1, what), steady[what]);
        }
        x.step(3);
        int[] over = {1, 4, 0, 0, 1, NONE};
        for (int what = 0; what < 6; what++) {
            due("over: layer(0, " + what + ")", x.layer(0, what), over[what]);
        }
        due("layer(2, 0)", x.layer(2, 0), UNKNOWN);
        due("layer(-1, 0)", x.layer(-1, 0), UNKNOWN);
        due("layer(2, 6)", x.layer(2, 6), UNKNOWN);
        due("layer(0, 6)", x.layer(0, 6), OUTSIDE);
        due("layer(1, -1)", x.layer(1, -1), OUTSIDE);
        due("layer(high, low)", x.layer(HIGH, LOW), UNKNOWN);
    }

    // Promises 15, 16

    private static void sharesOfBlend() {
        MotionStates x = Check.told("state 0 0 0 0;state 0 0 0 0;way 0 1 16 trigger 0");
        x.pull(0);
        for (int done = 1; done <= 16; done++) {
            x.step(1);
            due("share old", x.share(0, 0), 65536 - 4096 * done);
            due("share new", x.share(0, 1), 4096 * done);
            due("bits old", x.bits(0, 0), Float.floatToIntBits(1f - done / 16f));
            due("bits new", x.bits(0, 1), Float.floatToIntBits(done / 16f));
            due("steady", x.layer(0, 4), done == 16 ? 1 : 0);
        }
        for (int wrong : new int[] {-1, 2, LOW, HIGH}) {
            due("share layer", x.share(wrong, 0), UNKNOWN);
            due("share state", x.share(0, wrong), UNKNOWN);
            due("bits layer", x.bits(wrong, 0), UNKNOWN);
            due("bits state", x.bits(0, wrong), UNKNOWN);
        }
        due("layer 1", x.share(1, 0), 65536);
        due("layer 1, bits", x.bits(1, 0), 1065353216);
    }

    private static void bitsOfShares() {
        // Each blend is broken in its first frame, in turn by each of two ways, so that the floats must round.
        MotionStates x = Check.told("state 0 0 0 0;state 0 0 0 0;state 0 0 0 0;way 9 1 16 after 0;breaking;way 9 2 16 after 0;breaking");
        float[] want = {1f, 0f, 0f};
        int in = 0;
        for (int i = 0; i < 45; i++) {
            in = in == 1 ? 2 : 1;
            due("in", x.step(1), in);
            for (int state = 0; state < 3; state++) {
                want[state] = want[state] * (1f - 1f / 16f);
                want[state] += state == in ? 1f / 16f : 0f;
                due("bits " + i, x.bits(0, state), Float.floatToIntBits(want[state]));
                due("share " + i, x.share(0, state), (int) (want[state] * 65536f));
            }
            due("whole " + i, x.whole(0), (int) ((want[0] + want[1] + want[2] - 1f) * 16777216f) + 100);
        }
    }

    private static void bitsOfSmallShares() {
        // The share of STATE 0 is halved frame by frame: below the least normal float, then 0.
        MotionStates x = Check.told("state 0 0 0 0;state 0 0 0 0;state 0 0 0 0;way 9 1 2 after 0;breaking;way 9 2 2 after 0;breaking");
        float want = 1f;
        for (int i = 1; i <= 152; i++) {
            x.step(1);
            want = want / 2f;
            due("bits, halved " + i, x.bits(0, 0), Float.floatToIntBits(want));
        }
        due("bits, nothing left", x.bits(0, 0), 0);
        MotionStates y = Check.told("state 0 0 0 0;state 0 0 0 0;state 0 0 0 0;way 9 1 4 after 0;breaking;way 9 2 4 after 0;breaking");
        float shrunk = 1f;
        for (int i = 1; i <= 74; i++) {
            y.step(5);
            for (int times = 0; times < 5; times++) {
                shrunk = shrunk * 0.75f;
            }
            due("bits, three quarters " + i, y.bits(1, 0), Float.floatToIntBits(shrunk));
        }
    }

    // Promises 17, 18

    private static void limbIs(String what, MotionStates x, int limb, float want) {
        due(what + ": limb " + limb, x.limb(limb), (int) (want * 1024f) + 1000000);
        due(what + ": exact " + limb, x.exact(limb), Double.doubleToLongBits((double) want));
    }

    private static void limbs() {
        MotionStates x = Check.told("state 4 -8 0 99;state 40 8 -99 1;state 1 2 3 5;way 0 1 8 trigger 0;breaking;way 1 2 16 trigger 1");
        limbIs("steady", x, 0, 1f);
        limbIs("steady", x, 1, -2f);
        limbIs("steady", x, 2, 0f);
        limbIs("steady", x, 3, 24.75f);
        due("limb(3)", x.limb(3), 1025344);
        due("exact(0)", x.exact(0), 4607182418800017408L);
        x.pull(0);
        x.step(3);
        limbIs("blend", x, 0, 0f + 1f * 0.625f + 10f * 0.375f);
        limbIs("blend", x, 1, 0f + -2f * 0.625f + 2f * 0.375f);
        limbIs("blend", x, 2, 0f + 0f * 0.625f + -24.75f * 0.375f);
        limbIs("blend", x, 3, 0f + 24.75f * 0.625f + 0.25f * 0.375f);
        x.pull(1);
        x.step(5);
        float keep = 1f - 5f / 16f;
        limbIs("broken", x, 3, 24.75f * (0.625f * keep) + 0.25f * (0.375f * keep) + 1.25f * (5f / 16f));
        limbIs("broken", x, 2, 0f + -24.75f * (0.375f * keep) + 0.75f * (5f / 16f));
        for (int wrong : new int[] {-1, 4, LOW, HIGH}) {
            due("limb wrong", x.limb(wrong), UNKNOWN);
            due("exact wrong", x.exact(wrong), -2L);
        }
        due("cut towards 0", Check.told("state -1 0 0 0;state 0 0 0 0;way 0 1 16 after 0").limb(0), 999744);
    }

    private static void limbsMasked() {
        MotionStates x = Check.told("state 4 -8 12 99;state 40 8 -99 1;way 0 1 4 trigger 0;mask 5 3");
        x.pull(0);
        x.step(1);
        float w = 3f / 16f;
        limbIs("in the mask", x, 0, (1f * 0.75f + 10f * 0.25f) * (1f - w) + 1f * w);
        limbIs("not in it", x, 1, -2f * 0.75f + 2f * 0.25f);
        limbIs("in the mask", x, 2, (3f * 0.75f + -24.75f * 0.25f) * (1f - w) + 3f * w);
        limbIs("not in it", x, 3, 24.75f * 0.75f + 0.25f * 0.25f);
        for (int weight = 0; weight <= 16; weight++) {
            MotionStates y = Check.told("state 4 -8 12 99;state 40 8 -99 1;way 0 1 0 trigger 0;mask 10 " + weight);
            y.pull(0);
            y.step(1);
            float u = weight / 16f;
            limbIs("weight " + weight, y, 0, 10f);
            limbIs("weight " + weight, y, 1, 2f * (1f - u) + -2f * u);
            limbIs("weight " + weight, y, 2, -24.75f);
            limbIs("weight " + weight, y, 3, 0.25f * (1f - u) + 24.75f * u);
        }
    }

    private static void exactOfSmallLimbs() {
        // LIMBS of the vanishing STATE alone: below the least normal float, and, mixed half and half, the zero below zero.
        MotionStates x = Check.told("state -4 4 -4 -8;state 0 0 0 0;state 0 0 0 0;way 9 1 2 after 0;breaking;way 9 2 2 after 0;breaking;mask 11 8");
        x.step(99);
        x.step(26);
        float share = 1f;
        for (int i = 1; i <= 125; i++) {
            share = share / 2f;
        }
        for (int i = 126; i <= 151; i++) {
            x.step(1);
            share = share / 2f;
            limbIs("small " + i, x, 0, (0f + -1f * share) * 0.5f + (0f + -1f * share) * 0.5f);
            limbIs("small " + i, x, 1, (0f + 1f * share) * 0.5f + (0f + 1f * share) * 0.5f);
            limbIs("small " + i, x, 2, 0f + -1f * share);
            limbIs("small " + i, x, 3, (0f + -2f * share) * 0.5f + (0f + -2f * share) * 0.5f);
            if (i == 149) {
                due("the zero below zero", x.exact(0), Long.MIN_VALUE);
                due("the zero above", x.exact(1), 0L);
                due("the least float", x.exact(2), Double.doubleToLongBits(-Float.MIN_VALUE));
            }
        }
        MotionStates y = Check.told("state -4 4 0 0;way 0 0 1 after 0;mask 15 16");
        due("one product alone below zero", Check.told("state -4 0 0 0;state 0 0 0 0;way 0 1 0 trigger 0;mask 1 16").exact(0),
            Double.doubleToLongBits(-1.0));
        due("zero of a state", y.exact(2), 0L);
        MotionStates z = Check.told("state 0 0 0 0;state -4 0 0 0;way 0 1 0 trigger 0;mask 1 16");
        z.pull(0);
        z.step(1);
        due("-1 times 0 and 0 times 1", z.exact(0), 0L);
        zeroBesideSmall(1, 2);
        zeroBesideSmall(2, 1);
    }

    /** One LAYER's LIMB is just below zero, the other's is zero: half and half that is the common zero. */
    private static void zeroBesideSmall(int lowerTrigger, int upperTrigger) {
        MotionStates x = Check.told("state0 0 0 0;".repeat(4) + "state-4 0 0 0;way0 4 0trigger1;way0 3 0trigger2;"
            + "way4 1 2trigger0;breaking;way1 2 2after0;breaking;way2 1 2after0;breaking;mask1 8");
        x.pull(lowerTrigger);
        x.step(1);
        x.pull(upperTrigger);
        x.step(1);
        x.pull(0);
        x.step(75);
        x.step(74);
        due("the least share", x.bits(lowerTrigger == 1 ? 0 : 1, 4), 1);
        due("the common zero", x.exact(0), 0L);
        due("the common zero, cut", x.limb(0), 1000000);
    }

    // Promise 19

    private static void wholeOfShares() {
        MotionStates x = Check.told(WALK);
        due("whole(0)", x.whole(0), 100);
        x.pull(0);
        x.step(1);
        due("whole in a blend", x.whole(0), 100);
        due("whole(1)", x.whole(1), 100);
        due("whole(2)", x.whole(2), UNKNOWN);
        due("whole(-1)", x.whole(-1), UNKNOWN);
        MotionStates y = Check.told("state 0 0 0 0;state 0 0 0 0;state 0 0 0 0;way 9 1 16 after 0;breaking;way 9 2 16 after 0;breaking");
        int least = 100;
        int most = 100;
        for (int i = 0; i < 60; i++) {
            y.step(1);
            float sum = 0f;
            for (int state = 0; state < 3; state++) {
                sum += Float.intBitsToFloat(y.bits(1, state));
            }
            int want = (int) ((sum - 1f) * 16777216f) + 100;
            due("whole, rounded " + i, y.whole(1), want);
            least = Math.min(least, want);
            most = Math.max(most, want);
        }
        Check.holds("some sums are not one", least < 100 || most > 100);
        MotionStates six = Check.told("state4 8 12 16;".repeat(6) + "way0 5 4trigger0;way5 0 4after99");
        six.pull(0);
        six.step(1);
        due("whole of six states", six.whole(0), 100);
        due("limb of six states", six.limb(3), 1004096);
        six.step(3);
        due("whole of the last", six.whole(0), 100);
        due("share of the last", six.share(0, 5), 65536);
    }

    // Promises 20, 21

    private static void reachAndDead() {
        MotionStates x = Check.told("state0 0 0 0;state0 0 0 0;state0 0 0 0;state0 0 0 0;state0 0 0 0;state0 0 0 0;"
            + "way4 3 0after9;way3 2 0after9;way2 1 0after9;way1 0 0after9;way5 5 0after0");
        int[] want = {1, 3, 7, 15, 31, 32};
        for (int state = 0; state < 6; state++) {
            due("reach(" + state + ")", x.reach(state), want[state]);
        }
        due("dead", x.dead(), 33);
        due("reach(6)", x.reach(6), UNKNOWN);
        due("reach(-1)", x.reach(-1), UNKNOWN);
        due("reach(low)", x.reach(LOW), UNKNOWN);
        MotionStates y = Check.told("state 0 0 0 0;state 0 0 0 0;state 0 0 0 0;way 9 1 0 trigger 0");
        due("reach from any", y.reach(2), 6);
        due("reach from itself alone", y.reach(1), 2);
        due("dead: the one to which any leads", y.dead(), 2);
        MotionStates z = Check.told("state 0 0 0 0;state 0 0 0 0;state 0 0 0 0;way 0 1 0 after 0;way 1 2 0 after 0;way 2 0 0 over 0 99");
        due("round", z.reach(1), 7);
        due("no dead end", z.dead(), 0);
        MotionStates one = Check.told("state 0 0 0 0");
        due("one state: reach", one.reach(0), 1);
        due("one state: dead", one.dead(), 1);
        due("no such state", one.reach(1), UNKNOWN);
        x.step(99);
        due("reach is not where it is", x.reach(4), 31);
    }

    // Promise 22

    private static void untilFrames() {
        MotionStates x = Check.told("state 0 0 0 0;state 0 0 0 0;state 0 0 0 0;way 0 1 8 after 3;way 1 2 0 after 0;way 2 0 0 trigger 0");
        due("until the one it is in", x.until(0, 0), 0);
        due("until the next", x.until(0, 1), 4);
        due("until behind the blend", x.until(0, 2), 12);
        due("until, layer 1", x.until(1, 2), 12);
        due("nothing changed", x.layer(0, 1), 0);
        due("nothing to undo", x.count(9), 0);
        x.step(12);
        due("it came so", x.layer(0, 0), 2);
        due("until none", x.until(0, 1), NONE);
        x.pull(0);
        due("until by a trigger", x.until(0, 0), 1);
        due("layer 1 does not get it", x.until(1, 0), NONE);
        due("the trigger is still pulled", x.count(2), 1);
        due("until(2, 0)", x.until(2, 0), UNKNOWN);
        due("until(-1, 0)", x.until(-1, 0), UNKNOWN);
        due("until(0, 3)", x.until(0, 3), UNKNOWN);
        due("until(0, -1)", x.until(0, -1), UNKNOWN);
        MotionStates y = Check.told("state0 0 0 0;state0 0 0 0;state0 0 0 0;state0 0 0 0;state0 0 0 0;way0 1 0after99;way1 2 0after99;way2 3 0after99;way3 4 0after4");
        due("98 and more", y.until(0, 1), 100);
        due("until 298", y.until(0, 3), 298);
        due("until beyond 300", y.until(0, 4), NONE);
        y.step(1);
        due("a frame on", y.until(0, 4), NONE);
        y.step(1);
        due("300 frames", y.until(0, 4), 300);
        y.step(1);
        due("299 frames", y.until(1, 4), 299);
    }

    // Promise 23

    private static void pulledState() {
        MotionStates x = Check.told(WALK);
        due("pulled(0, 0)", x.pulled(0, 0), 1);
        due("pulled(1, 0): layer 0 uses it up", x.pulled(1, 0), 0);
        due("pulled(0, 1)", x.pulled(0, 1), 0);
        due("nothing changed", x.count(2) + x.layer(0, 1) + x.count(9), 0);
        x.pull(2);
        due("it is pulled", x.pulled(0, 2), NOT);
        x.pull(0);
        x.step(1);
        due("in a breaking blend", x.pulled(0, 1), 2);
        due("pulled(1, 0)", x.pulled(1, 0), 1);
        x.pull(1);
        x.step(1);
        due("in another blend", x.pulled(0, 0), 2);
        due("pulled(2, 0)", x.pulled(2, 0), UNKNOWN);
        due("pulled(-1, 0)", x.pulled(-1, 0), UNKNOWN);
        due("pulled(0, 3)", x.pulled(0, 3), UNKNOWN);
        due("pulled(0, -1)", x.pulled(0, -1), UNKNOWN);
        due("still pulled", x.count(2), 4);
    }

    // Promise 24

    private static void shelfMade() {
        MotionStates x = new MotionStates();
        due("shelf(0, 0, 8)", x.shelf(0, 0, 8), 8);
        due("shelf(1, 1, 0)", x.shelf(1, 1, 0), 0);
        due("shelf(2, 2, 1)", x.shelf(2, 2, 1), 1);
        due("shelf(3, 0, 1)", x.shelf(3, 0, 1), UNKNOWN);
        due("shelf(-1, 0, 1)", x.shelf(-1, 0, 1), UNKNOWN);
        due("shelf(3, 3, -1)", x.shelf(3, 3, -1), UNKNOWN);
        due("shelf(0, 3, 1)", x.shelf(0, 3, 1), OUTSIDE);
        due("shelf(0, -1, 1)", x.shelf(0, -1, 1), OUTSIDE);
        due("shelf(0, 0, 9)", x.shelf(0, 0, 9), OUTSIDE);
        due("shelf(0, 0, high)", x.shelf(0, 0, HIGH), OUTSIDE);
        due("shelf(0, 3, -1)", x.shelf(0, 3, -1), OUTSIDE);
        due("shelf(0, 0, -1)", x.shelf(0, 0, -1), SIZE);
        due("shelf(0, 0, low)", x.shelf(0, 0, LOW), SIZE);
        x.lay(0, 7, 2, 8);
        due("refused: the old one stays", x.shelf(0, 1, -1), SIZE);
        due("its mark", x.look(0, 7), 1008);
        due("a new one", x.shelf(0, 1, 8), 8);
        due("is empty", x.look(0, 7), EMPTY);
        due("and for another sort", x.lay(0, 7, 2, 8), STORE);
        due("smaller", x.shelf(0, 0, 2), 2);
        due("no such place any more", x.look(0, 7), INDEX);
        due("larger again", x.shelf(0, 0, 8), 8);
        due("still empty", x.look(0, 7), EMPTY);
    }

    // Promise 25

    private static void layMarks() {
        MotionStates x = new MotionStates();
        due("missing", x.lay(0, 0, 1, 0), NULL);
        due("missing, wrong sort", x.lay(0, 0, 3, 0), OUTSIDE);
        due("missing, no such place", x.lay(0, -1, 1, 0), NULL);
        x.shelf(0, 0, 2);
        x.shelf(1, 1, 2);
        x.shelf(2, 2, 2);
        due("any: a dot", x.lay(0, 0, 1, 0), 0);
        due("any: a stroke", x.lay(0, 1, 2, 999), 999);
        due("dots: a dot", x.lay(1, 1, 1, 999), 999);
        due("dots: a stroke", x.lay(1, 1, 2, 0), STORE);
        due("dots: it stays", x.look(1, 1), 999);
        due("strokes: a stroke", x.lay(2, 0, 2, 0), 0);
        due("strokes: a dot", x.lay(2, 0, 1, 0), STORE);
        due("laid over", x.lay(0, 0, 2, 4), 4);
        due("is the new one", x.look(0, 0), 1004);
        due("no such shelf", x.lay(3, 0, 0, 1000), UNKNOWN);
        due("no such shelf", x.lay(-1, 0, 1, 1), UNKNOWN);
        due("sort 0", x.lay(0, 0, 0, 1), OUTSIDE);
        due("sort 3", x.lay(0, 0, 3, 1), OUTSIDE);
        due("sort -1", x.lay(0, 0, -1, 1), OUTSIDE);
        due("v -1", x.lay(0, 0, 1, -1), OUTSIDE);
        due("v 1000", x.lay(0, 0, 1, 1000), OUTSIDE);
        due("v low", x.lay(0, 0, 2, LOW), OUTSIDE);
        due("outside ahead of index", x.lay(0, 2, 1, 1000), OUTSIDE);
        due("place 2", x.lay(0, 2, 1, 1), INDEX);
        due("place -1", x.lay(0, -1, 1, 1), INDEX);
        due("place high", x.lay(0, HIGH, 1, 1), INDEX);
        due("index ahead of store", x.lay(1, 2, 2, 1), INDEX);
    }

    // Promises 26, 27

    private static void lookAndLift() {
        MotionStates x = new MotionStates();
        due("look, missing", x.look(0, 9), NULL);
        due("lift, missing", x.lift(0, 9), NULL);
        x.shelf(0, 0, 3);
        x.lay(0, 0, 1, 0);
        x.lay(0, 2, 2, 0);
        due("look dot 0", x.look(0, 0), 0);
        due("look empty", x.look(0, 1), EMPTY);
        due("look stroke 0", x.look(0, 2), 1000);
        for (int wrong : new int[] {-1, 3, 8, LOW, HIGH}) {
            due("look, no such place", x.look(0, wrong), INDEX);
            due("lift, no such place", x.lift(0, wrong), INDEX);
            due("look, no such shelf", x.look(wrong, 0), UNKNOWN);
            due("lift, no such shelf", x.lift(wrong, 0), UNKNOWN);
        }
        due("lift dot 0", x.lift(0, 0), 0);
        due("it is gone", x.look(0, 0), EMPTY);
        due("lift again", x.lift(0, 0), EMPTY);
        due("the other stays", x.look(0, 2), 1000);
        due("lift stroke", x.lift(0, 2), 1000);
        due("nothing left", x.count(8), 0);
        due("the shelf is there", x.drop(0), 3);
    }

    // Promise 28

    private static void likenessOfShelves() {
        MotionStates x = new MotionStates();
        due("missing", x.likeness(0, 1), NULL);
        due("missing itself", x.likeness(0, 0), NULL);
        due("no such shelf", x.likeness(3, 1), UNKNOWN);
        due("no such other", x.likeness(0, 3), UNKNOWN);
        due("no such shelf", x.likeness(-1, 0), UNKNOWN);
        due("no such other", x.likeness(0, -1), UNKNOWN);
        x.shelf(1, 2, 3);
        x.lay(1, 1, 2, 5);
        due("likeness of a missing one is refused", x.likeness(1, 0), NULL);
        due("it stays", x.look(1, 1), 1005);
        due("likeness where none was", x.likeness(0, 1), 3);
        due("same thing", x.look(0, 1), 1005);
        due("same emptiness", x.look(0, 0), EMPTY);
        due("made for the same", x.lay(0, 0, 1, 1), STORE);
        due("things", x.count(8), 2);
        x.lift(1, 1);
        due("apart from then on", x.look(0, 1), 1005);
        x.lay(0, 1, 2, 9);
        due("apart the other way", x.look(1, 1), EMPTY);
        due("itself", x.likeness(0, 0), 3);
        due("as it was", x.look(0, 1), 1009);
        x.shelf(2, 0, 0);
        due("likeness of an empty row", x.likeness(0, 2), 0);
        due("no place", x.look(0, 0), INDEX);
        x.drop(2);
        due("it stays when the other is dropped", x.drop(0), 0);
    }

    // Promise 29

    private static void handMarks() {
        MotionStates x = new MotionStates();
        x.shelf(0, 0, 3);
        due("other is missing", x.hand(0, 0, 1, 0), NULL);
        due("shelf is missing", x.hand(1, 0, 0, 0), NULL);
        due("missing ahead of index", x.hand(0, 9, 1, 9), NULL);
        due("no such shelf", x.hand(3, 0, 0, 0), UNKNOWN);
        due("no such other", x.hand(0, 0, 3, 0), UNKNOWN);
        due("no such ahead of missing", x.hand(1, 0, -1, 0), UNKNOWN);
        x.shelf(1, 1, 2);
        x.shelf(2, 2, 2);
        x.lay(0, 0, 1, 7);
        x.lay(0, 1, 2, 8);
        due("a dot to dots", x.hand(0, 0, 1, 1), 1);
        due("there", x.look(1, 1), 7);
        due("and here, too", x.look(0, 0), 7);
        due("a stroke to dots", x.hand(0, 1, 1, 1), STORE);
        due("a stroke to strokes", x.hand(0, 1, 2, 0), 1);
        due("a dot to strokes", x.hand(1, 1, 2, 1), STORE);
        due("nothing changed", x.look(2, 1), EMPTY);
        due("empty", x.hand(0, 2, 1, 1), EMPTY);
        due("nothing is put", x.look(1, 1), 7);
        due("empty, of another sort", x.hand(1, 0, 2, 0), EMPTY);
        due("no place i", x.hand(0, 3, 1, 0), INDEX);
        due("no place j", x.hand(0, 0, 1, 2), INDEX);
        due("no place i below", x.hand(0, -1, 1, 0), INDEX);
        due("no place j below", x.hand(0, 0, 1, -1), INDEX);
        due("index ahead of store", x.hand(0, 1, 1, 2), INDEX);
        due("index ahead of empty", x.hand(0, 2, 1, 2), INDEX);
        due("to itself", x.hand(0, 1, 0, 2), 1);
        x.lay(1, 0, 1, 0);
        due("dot 0", x.hand(1, 0, 0, 2), 1);
        due("there", x.look(0, 2), 0);
        x.lift(1, 0);
        due("to itself again", x.hand(0, 1, 0, 2), 1);
        due("there", x.look(0, 2), 1008);
        due("onto itself", x.hand(0, 2, 0, 2), 1);
        due("over another", x.hand(0, 0, 0, 2), 1);
        due("there", x.look(0, 2), 7);
        due("things", x.count(8), 5);
    }

    // Promise 30

    private static void dropShelves() {
        MotionStates x = new MotionStates();
        due("missing", x.drop(0), NULL);
        due("no such", x.drop(3), UNKNOWN);
        due("no such", x.drop(-1), UNKNOWN);
        x.shelf(0, 0, 5);
        x.shelf(1, 0, 0);
        x.lay(0, 4, 1, 1);
        due("drop", x.drop(0), 5);
        due("things", x.count(8), 0);
        due("missing now", x.look(0, 4), NULL);
        due("drop again", x.drop(0), NULL);
        due("drop an empty row", x.drop(1), 0);
        due("missing, too", x.drop(1), NULL);
        x.shelf(0, 0, 5);
        due("new and empty", x.look(0, 4), EMPTY);
    }

    // Promise 31

    private static void countThings() {
        MotionStates x = Check.told(WALK);
        x.pull(1);
        x.set(0, -99);
        x.set(1, 99);
        x.set(2, 1);
        x.shelf(0, 0, 8);
        x.shelf(1, 0, 8);
        x.shelf(2, 2, 1);
        for (int i = 0; i < 8; i++) {
            x.lay(0, i, 1 + i % 2, i);
            x.lay(1, i, 1, 0);
        }
        x.lay(2, 0, 2, 1);
        Check.write(x, "oh");
        int[] want = {3, 4, 2, 1, 199, 101, 5, 4, 17, 4, 2};
        for (int what = 0; what < want.length; what++) {
            due("count(" + what + ")", x.count(what), want[what]);
        }
        for (int wrong : new int[] {-1, 11, LOW, HIGH}) {
            due("count wrong", x.count(wrong), OUTSIDE);
        }
    }

    private static void noStates() {
        MotionStates x = Check.told("mask 15 16");
        due("set", x.set(0, 1), 100);
        due("pull", x.pull(0), 1);
        due("step", x.step(1), NOT);
        due("step, outside", x.step(0), OUTSIDE);
        due("undo", x.undo(), 1);
        due("keep", x.keep(0), NONE);
        due("keep, no such", x.keep(2), UNKNOWN);
        due("set", x.set(0, 2), 101);
        due("back", x.back(0), NONE);
        due("as kept", x.count(3), 101);
        due("back, not kept", x.back(1), NOT);
        due("layer", x.layer(0, 0), NOT);
        due("layer, no such", x.layer(2, 6), UNKNOWN);
        due("layer, outside", x.layer(0, 6), OUTSIDE);
        due("share", x.share(0, 0), UNKNOWN);
        due("bits", x.bits(0, 0), UNKNOWN);
        due("limb", x.limb(0), NOT);
        due("limb, no such", x.limb(4), UNKNOWN);
        due("exact", x.exact(0), -4L);
        due("exact, no such", x.exact(-1), -2L);
        due("whole", x.whole(1), NOT);
        due("whole, no such", x.whole(2), UNKNOWN);
        due("reach", x.reach(0), UNKNOWN);
        due("dead", x.dead(), NOT);
        due("until", x.until(0, 0), UNKNOWN);
        due("pulled", x.pulled(0, 1), NOT);
        due("pulled, no such", x.pulled(0, 3), UNKNOWN);
    }
}
