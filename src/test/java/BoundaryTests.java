import java.util.Arrays;

/**
 * The document's sentences that name a boundary (at most, at least, at first, from .. to, none), one by one, each with
 * what stands just inside it and just outside. RefusalTests has the refusals, PromiseTests the promises as a whole.
 */
public final class BoundaryTests {
    private static final int NONE = -1, UNKNOWN = -2, NOT = -4;
    private static final int NULL = -11, INDEX = -13, STORE = -14, EMPTY = -15;
    private static final int HIGH = Integer.MAX_VALUE;
    private static final int[] FRAMES = {0, 1, 2, 4, 8, 16};
    private static final String TWO = "state 0 0 0 0;state 4 4 4 4;";
    private static final String THREE = "state0 0 0 0;state4 4 4 4;state8 8 8 8;";

    public static void main(String[] args) {
        terms();
        texts();
        frames();
        standing();
        foretold();
        doneAndUndone();
        shelves();
        Check.finish();
    }

    private static void due(String what, long got, long want) {
        Check.due(what, got, want);
    }

    private static void faultIs(String ahead, String text, int place) {
        MotionStates x = ahead.isEmpty() ? new MotionStates() : Check.told(ahead);
        int states = x.count(0);
        int ways = x.count(1);
        Check.write(x, text);
        due("fault of '" + text + "'", x.fault(), place);
        if (place != NONE) {
            due("figure of '" + text + "'", x.figure(), NOT);
            due("letters stay of '" + text + "'", x.count(10), text.length());
            due("states stay of '" + text + "'", x.count(0), states);
            due("ways stay of '" + text + "'", x.count(1), ways);
        } else {
            due("figure of '" + text + "'", x.figure(), text.chars().filter(c -> c == ';').count() + 1);
            due("letters are gone of '" + text + "'", x.count(10), 0);
        }
    }

    // ======== 1: how many there may be, what numbers may be, what is so at first

    private static void terms() {
        sixStates();
        sixthStateServes();
        twelveWays();
        twelfthWayServes();
        valuesFromLeastToMost();
        limitsOfConditions();
        numbersFromLeastToMost();
        triggersZeroToTwo();
        maskAndWeight();
        atFirst();
    }

    private static void sixStates() {
        String one = "state 1 2 3 4";
        String five = "state1 1 1 1;".repeat(4) + "state1 1 1 1";
        faultIs(five, one, NONE);
        faultIs(five, one + ";" + one, 14);
        faultIs(five, one + "; " + one, 15);
        faultIs(five, one + ";mask 0 0;" + one, 23);
        faultIs(five + ";state1 1 1 1", one, 0);
        faultIs(five + ";state1 1 1 1", "  state", 2);
        faultIs(five + ";state1 1 1 1", "states", 0);
        faultIs(five + ";state1 1 1 1", "figure;" + one, NONE);
        faultIs(five + ";state1 1 1 1", one + ";figure", 0);
        MotionStates x = Check.told(five + ";state1 1 1 1");
        due("six states", x.count(0), 6);
        Check.write(x, "figure;state 1 2 3 4");
        x.figure();
        due("one state again", x.count(0), 1);
        due("state 1 is no more", x.value(1, 0), UNKNOWN);
    }

    private static void sixthStateServes() {
        MotionStates x = Check.told("state0 0 0 0;".repeat(5) + "state-99 99 1 -1;way0 5 4trigger0;breaking;way5 4 2trigger1");
        int[] values = {1, 199, 101, 99};
        for (int limb = 0; limb < 4; limb++) {
            due("value(5, " + limb + ")", x.value(5, limb), values[limb]);
        }
        x.pull(0);
        due("step to 5", x.step(1), 5);
        due("share of 5", x.share(0, 5), 16384);
        due("share of 5, layer 1", x.share(1, 5), 0);
        due("limb", x.limb(1), 1000000 + (int) (24.75f * 0.25f * 1024f));
        due("until 5", x.until(0, 5), 0);
        due("reach of 5", x.reach(5), 48);
        due("keep in 5", x.keep(0), 5);
        x.step(1);
        due("half", x.bits(0, 5), Float.floatToIntBits(0.5f));
        due("undo", x.undo(), 2);
        due("shares of 4 and 5 are undone", x.bits(0, 5), Float.floatToIntBits(0.25f));
        x.pull(1);
        due("broken to 4", x.step(1), 4);
        due("share of 5, faded", x.bits(0, 5), Float.floatToIntBits(0.125f));
        due("share of 4", x.bits(0, 4), Float.floatToIntBits(0.5f));
        due("foretold to its end", x.until(0, 5), NONE);
        due("whole", x.whole(0), 100);
        x.keep(1);
        due("back to 5", x.back(0), 5);
        due("share of 5 is back", x.bits(0, 5), Float.floatToIntBits(0.25f));
        due("share of 4 is gone", x.bits(0, 4), 0);
        x.step(1);
        due("the begin of the blend is back", x.bits(0, 5), Float.floatToIntBits(0.5f));
        due("back to 4", x.back(1), 4);
        due("share of 4 is back", x.bits(0, 4), Float.floatToIntBits(0.5f));
        due("share of 5 is back, faded", x.bits(0, 5), Float.floatToIntBits(0.125f));
        x.step(1);
        due("steady in 4", x.bits(0, 4), Float.floatToIntBits(1f));
        laterStatesOfABegin();
    }

    /** The SHARES with which a BLEND began are undone and kept for STATES 4 and 5, too. */
    private static void laterStatesOfABegin() {
        MotionStates x = Check.told("state0 0 0 0;".repeat(5) + "state4 4 4 4;way0 4 0after0;way4 5 4trigger0;breaking;way5 0 4trigger1");
        x.step(1);
        x.pull(0);
        x.step(2);
        x.pull(1);
        x.step(1);
        x.keep(0);
        due("share of 4 in a broken blend", x.bits(0, 4), Float.floatToIntBits(0.375f));
        due("share of 5 in a broken blend", x.bits(0, 5), Float.floatToIntBits(0.375f));
        x.step(1);
        due("share of 4, further on", x.bits(0, 4), Float.floatToIntBits(0.25f));
        x.step(2);
        // From STATE 0 it goes to 4 again in the next FRAME, with another begin.
        x.step(1);
        x.pull(0);
        x.step(1);
        due("another blend", x.bits(0, 5), Float.floatToIntBits(0.25f));
        for (int i = 0; i < 4; i++) {
            x.undo();
        }
        due("undone: share of 4", x.bits(0, 4), Float.floatToIntBits(0.25f));
        x.undo();
        x.step(1);
        due("undone and on: share of 4", x.bits(0, 4), Float.floatToIntBits(0.25f));
        due("undone and on: share of 5", x.bits(0, 5), Float.floatToIntBits(0.25f));
        x.step(50);
        x.back(0);
        x.step(2);
        due("back and on: share of 4", x.bits(0, 4), Float.floatToIntBits(0.125f));
        due("back and on: share of 5", x.bits(0, 5), Float.floatToIntBits(0.125f));
    }

    private static void twelveWays() {
        String eleven = "state 1 1 1 1;" + "way9 0 0after0;".repeat(10) + "way9 0 0after0";
        String one = "way 0 0 0 after 0";
        faultIs(eleven, one, NONE);
        faultIs(eleven, one + ";" + one, 18);
        faultIs(eleven, one + ";breaking;" + one, 27);
        faultIs(eleven + ";way9 0 0after0", one, 0);
        faultIs(eleven + ";way9 0 0after0", " way", 1);
        faultIs(eleven + ";way9 0 0after0", "breaking", NONE);
        faultIs(eleven + ";way9 0 0after0", "figure;" + one, 11);
        faultIs(eleven + ";way9 0 0after0", "figure;state 1 1 1 1;" + one, NONE);
        due("eleven ways", Check.told(eleven).way(11, 0), UNKNOWN);
        due("twelve ways", Check.told(eleven + ";" + "way9 0 0after0").way(11, 0), 9);
    }

    private static void twelfthWayServes() {
        MotionStates x = Check.told("state0 0 0 0;state4 4 4 4;" + "way9 0 0after0;".repeat(10) + "way1 1 0after0");
        Check.write(x, "way 0 1 16 trigger 2;breaking");
        due("figure", x.figure(), 2);
        int[] parts = {0, 1, 16, 1, 3, 2, 100};
        for (int what = 0; what < 7; what++) {
            due("way(11, " + what + ")", x.way(11, what), parts[what]);
        }
        due("way(12, 0)", x.way(12, 0), UNKNOWN);
        due("reach by the twelfth", x.reach(0), 3);
        x.pull(2);
        due("until by the twelfth", x.until(0, 1), 1);
        due("step by the twelfth", x.step(1), 1);
        due("its number", x.layer(0, 5), 11);
        due("broken by the first", x.step(1), 0);
    }

    private static void valuesFromLeastToMost() {
        MotionStates x = Check.told("state -99 -98 -1 - 0;state 0 1 98 99;state 00 01 09 -09");
        int[] values = {1, 2, 99, 100, 100, 101, 198, 199, 100, 101, 109, 91};
        for (int i = 0; i < 12; i++) {
            due("value " + i, x.value(i / 4, i % 4), values[i]);
        }
        faultIs("", "state 100 0 0 0", 6);
        faultIs("", "state 0 100 0 0", 8);
        faultIs("", "state 0 0 100 0", 10);
        faultIs("", "state - 100 0 0 0", 8);
        faultIs("", "state 000 0 0 0", 6);
        faultIs("", "state - 0 0 0", 13);
        faultIs("", "state - - 0 0 0 0", 8);
        faultIs("", "state 0 -;mask 0 0", 9);
        faultIs("", "state ;", 6);
    }

    private static void limitsOfConditions() {
        faultIs(TWO + "mask 0 0", "way 0 1 0 after 0;way 0 1 0 after 99", NONE);
        faultIs(TWO + "mask 0 0", "way 0 1 0 after 100", 16);
        faultIs(TWO + "mask 0 0", "way 0 1 0 after - 0", 16);
        faultIs(TWO + "mask 0 0", "way 0 1 0 over 0 -99;way 0 1 0 over 2 99", NONE);
        faultIs(TWO + "mask 0 0", "way 0 1 0 over 0 -100", 18);
        faultIs(TWO + "mask 0 0", "way 0 1 0 under 0 -99;way 0 1 0 under 2 99", NONE);
        faultIs(TWO + "mask 0 0", "way 0 1 0 under 0 100", 18);
        faultIs(TWO + "mask 0 0", "way 0 1 0 under - 0 0", 16);
        faultIs(TWO + "mask 0 0", "way 0 1 0 trigger 0;way 0 1 0 trigger 2", NONE);
        faultIs(TWO + "mask 0 0", "way 0 1 0 trigger - 0", 18);
        faultIs(TWO + "mask 0 0", "way 0 1 0 trigger 9", 18);
        faultIs(TWO + "mask 0 0", "way 0 1 0 trigger 0 - 1", 20);
        faultIs(TWO + "mask 0 0", "way after 0", 4);
        faultIs(TWO + "mask 0 0", "way 0 after 0", 6);
        faultIs(TWO + "mask 0 0", "way 0 1 after 0", 8);
        faultIs(TWO + "mask 0 0", "way 0 1 0 after 0 breaking", 18);
        MotionStates x = Check.told(TWO + "way 0 1 0 over 0 -99;way 0 1 0 over 1 99;way 0 1 0 under 1 -99;way 1 0 0 under 2 99");
        int[] limits = {1, 199, 1, 199};
        for (int way = 0; way < 4; way++) {
            due("v of way " + way, x.way(way, 6), limits[way]);
        }
        moreAndLess();
    }

    /** More than v and less than v, by every number that there is, with v at both ends and in the middle. */
    private static void moreAndLess() {
        for (int v : new int[] {-99, -98, -1, 0, 1, 98, 99}) {
            MotionStates over = Check.told(TWO + "way 0 1 0 over 1 " + v);
            MotionStates under = Check.told(TWO + "way 0 1 0 under 1 " + v);
            over.set(1, -50);
            under.set(1, -50);
            over.keep(0);
            under.keep(0);
            for (int number = -99; number <= 99; number++) {
                over.set(1, number);
                under.set(1, number);
                boolean near = Math.abs(number) > 97 || Math.abs(number) < 3;
                if (near) {
                    due(number + " is more than " + v, over.until(0, 1), number > v ? 1 : NONE);
                    due(number + " is less than " + v, under.until(0, 1), number < v ? 1 : NONE);
                }
            }
        }
    }

    private static void numbersFromLeastToMost() {
        MotionStates x = new MotionStates();
        for (int number = 0; number < 3; number++) {
            due("set least", x.set(number, -99), 100);
            due("is least", x.count(3 + number), 1);
            due("set least again", x.set(number, -99), NOT);
            due("set most", x.set(number, 99), 1);
            due("is most", x.count(3 + number), 199);
            due("set most again", x.set(number, 99), NOT);
            due("set 0", x.set(number, 0), 199);
            due("is 0", x.count(3 + number), 100);
            due("set 0 again", x.set(number, 0), NOT);
            due("set " + number, x.set(number, number + 1), 100);
        }
        due("each its own", x.count(3) * 1000000L + x.count(4) * 1000L + x.count(5), 101102103L);
    }

    private static void triggersZeroToTwo() {
        for (int trigger = 0; trigger < 3; trigger++) {
            MotionStates x = Check.told(TWO + "way 0 1 0 trigger " + trigger);
            for (int other = 0; other < 3; other++) {
                due("pulled", x.pulled(0, other), other == trigger ? 1 : 0);
            }
            x.pull((trigger + 1) % 3);
            x.pull((trigger + 2) % 3);
            due("others do not serve", x.step(1), 0);
            due("nor are they used up", x.count(2), 7 - (1 << trigger));
            x.pull(trigger);
            due("it serves", x.step(1), 1);
            due("once", x.count(2), 7 - (1 << trigger));
            due("it can be pulled again", x.pull(trigger), 1);
        }
    }

    private static void maskAndWeight() {
        faultIs("", "mask 0 0;mask 15 16", NONE);
        faultIs("", "mask 00 00", NONE);
        faultIs("", "mask 16 16", 5);
        faultIs("", "mask 15 17", 8);
        faultIs("", "mask 015 0", 5);
        faultIs("", "mask 0 016", 7);
        faultIs("", "mask 99 0", 5);
        faultIs("", "mask 0;0", 6);
        for (int mask = 0; mask < 16; mask++) {
            MotionStates x = Check.told("state 4 4 4 4;state 8 8 8 8;way 0 1 0 trigger 0;mask " + mask + " 16");
            x.pull(0);
            x.step(1);
            due("mask", x.count(6), mask);
            for (int limb = 0; limb < 4; limb++) {
                due("limb " + limb + " in mask " + mask, x.limb(limb), (mask >> limb & 1) == 1 ? 1001024 : 1002048);
            }
        }
    }

    private static void atFirst() {
        MotionStates x = Check.told("mask 9 0;state 1 1 1 1;way 0 0 0 after 0;figure");
        int[] first = {0, 0, 0, 100, 100, 100, 0, 16, 0, 0, 0};
        for (int what = 0; what < first.length; what++) {
            due("as at first: count(" + what + ")", x.count(what), first[what]);
        }
        due("as at first: value", x.value(0, 0), UNKNOWN);
        due("as at first: way", x.way(0, 0), UNKNOWN);
        due("as at first: step", x.step(1), NOT);
        due("as at first: keep", x.keep(0), NONE);
        Check.write(x, "state 9 9 9 9");
        x.figure();
        due("the mask is none", x.count(6), 0);
        due("its weight", x.count(7), 16);
        due("breaking has none to break", x.count(1), 0);
        statesWithoutWays();
    }

    private static void statesWithoutWays() {
        MotionStates x = Check.told("state 8 0 0 -8;mask 8 16");
        due("step", x.step(99), 0);
        due("lasted", x.layer(1, 1), 99);
        due("limb", x.limb(0), 1002048);
        due("limb in the mask", x.limb(3), 997952);
        due("exact", x.exact(0), Double.doubleToLongBits(2.0));
        due("whole", x.whole(1), 100);
        due("reach", x.reach(0), 1);
        due("dead", x.dead(), 1);
        due("until", x.until(1, 0), 0);
        due("pulled", x.pulled(1, 2), 0);
        due("keep", x.keep(1), 0);
        due("back", x.back(1), 0);
        due("way", x.way(0, 0), UNKNOWN);
    }

    // ======== 1: THE TEXT

    private static void texts() {
        everyLetter();
        lettersAtTheEdge();
        clausesTwentyFour();
        toldAhead();
        breakingWhichWay();
        endTooSoon();
        clausesInOrder();
        behindTheClauses();
    }

    /** Which letters are part of a word, of a number, a blank, a sign. */
    private static void everyLetter() {
        for (int letter = 0; letter < 256; letter++) {
            char c = (char) letter;
            boolean small = letter >= 'a' && letter <= 'z';
            boolean digit = letter >= '0' && letter <= '9';
            letterIs("" + c, letter == ' ' ? 1 : 0);
            letterIs("figure" + c, letter == ' ' ? NONE : letter == ';' ? 7 : small ? 0 : 6);
            letterIs(c + "figure", letter == ' ' ? NONE : 0);
            letterIs("figure" + c + "figure", letter == ';' ? NONE : letter == ' ' ? 7 : small ? 0 : 6);
            letterIs("state" + c + "0 0 0 0", letter == ' ' || letter == '-' || digit ? NONE : small ? 0 : 5);
            letterIs("state 0 0 0 1" + c, letter == ' ' || digit ? NONE : letter == ';' ? 14 : 13);
        }
    }

    private static void letterIs(String text, int place) {
        MotionStates x = new MotionStates();
        for (int i = 0; i < text.length(); i++) {
            due("write " + (int) text.charAt(i), x.write(text.charAt(i)), i + 1);
        }
        StringBuilder shown = new StringBuilder();
        text.chars().forEach(c -> shown.append(c < 33 || c > 126 ? "<" + c + ">" : "" + (char) c));
        due("fault of " + shown, x.fault(), place);
        due("figure of " + shown, x.figure() > 0 ? 1 : 0, place == NONE ? 1 : 0);
    }

    private static void lettersAtTheEdge() {
        faultIs("", " ".repeat(194) + "figure", NONE);
        faultIs("", " ".repeat(193) + "figure;", 200);
        faultIs("", " ".repeat(193) + "figure7", 199);
        faultIs("", " ".repeat(195) + "figur", 195);
        faultIs("", "figure" + " ".repeat(194), NONE);
        faultIs("", " ".repeat(199) + "s", 199);
        faultIs("", " ".repeat(200), 200);
        faultIs("", "z".repeat(200), 0);
        faultIs("", "7".repeat(200), 0);
        faultIs("", "state 0 0 0 " + "7".repeat(188), 12);
        faultIs("", "-".repeat(200), 0);
        MotionStates x = new MotionStates();
        Check.write(x, " ".repeat(199));
        due("the last letter", x.write(' '), 200);
        due("one too many", x.write(' '), -5);
        due("letters", x.count(10), 200);
        due("erase", x.erase(), 200);
        due("nothing to erase", x.erase(), 0);
        due("the first letter", x.write('f'), 1);
        due("erase one", x.erase(), 1);
    }

    private static void clausesTwentyFour() {
        MotionStates x = new MotionStates();
        Check.write(x, "figure;".repeat(23) + "state 1 2 3 4");
        due("24 clauses are done", x.figure(), 24);
        due("the last of them, too", x.count(0), 1);
        faultIs("", "figure;".repeat(22) + "figure", NONE);
        faultIs("", "figure;".repeat(23) + "figure", NONE);
        faultIs("", "figure;".repeat(23) + "figure ", NONE);
        faultIs("", "figure;".repeat(23), 161);
        faultIs("", "figure;".repeat(23) + ";", 161);
        faultIs("", "figure;".repeat(23) + "figure figure", 168);
        // The ; behind the 24th CLAUSE is the first TOKEN behind which no text can go on.
        faultIs("", "figure;".repeat(23) + "figure;", 167);
        faultIs("", "figure;".repeat(23) + "figure ;figure", 168);
        faultIs("", "figure;".repeat(25) + "figure", 167);
    }

    private static void toldAhead() {
        faultIs("", "way 0 0 0 after 0", 4);
        faultIs("", "way 9 0 0 after 0", 6);
        faultIs("", "way 0 0 0 after 0;state 0 0 0 0", 4);
        faultIs("", "state 0 0 0 0;way 0 0 0 after 0", NONE);
        faultIs("", "state 0 0 0 0;way 1 0 0 after 0;state 0 0 0 0", 18);
        faultIs("", "state 0 0 0 0;way 0 1 0 after 0;state 0 0 0 0", 20);
        faultIs("state 0 0 0 0", "way 9 0 0 after 0", NONE);
        faultIs("state 0 0 0 0", "way 9 9 0 after 0", 6);
        faultIs("state 0 0 0 0", "way 1 0 0 after 0", 4);
        faultIs("state 0 0 0 0", "way 8 0 0 after 0", 4);
        faultIs("state 0 0 0 0", "way 10 0 0 after 0", 4);
        faultIs("state 0 0 0 0", "way 19 0 0 after 0", 4);
        faultIs("state 0 0 0 0", "way 09 00 00 after 00", NONE);
        faultIs("state 0 0 0 0", "figure;way 9 0 0 after 0", 13);
        String six = "state0 0 0 0;".repeat(5) + "state0 0 0 0";
        for (int state = 0; state < 12; state++) {
            faultIs(six, "way " + state + " 0 0 after 0", state < 6 || state == 9 ? NONE : 4);
            faultIs(six, "way 0 " + state + " 0 after 0", state < 6 ? NONE : 6);
        }
    }

    private static void breakingWhichWay() {
        MotionStates x = Check.told(TWO + "way 0 1 4 after 0;way 1 0 4 after 0");
        due("not at first", x.way(0, 3) + x.way(1, 3), 0);
        Check.write(x, "breaking;breaking;way 0 1 2 after 1");
        due("figure", x.figure(), 3);
        int[] breaking = {0, 1, 0};
        for (int way = 0; way < 3; way++) {
            due("breaking " + way, x.way(way, 3), breaking[way]);
        }
        Check.write(x, "state 1 1 1 1;mask 1 1;breaking");
        x.figure();
        due("the last, with others between", x.way(2, 3), 1);
        due("none but these", x.way(0, 3), 0);
        faultIs("", "breaking", 0);
        faultIs("", "mask 0 0; breaking", 10);
        faultIs(TWO + "mask 0 0", "breaking;way 0 1 0 after 0", 0);
        faultIs(TWO + "way 0 1 0 after 0", "figure;breaking", 7);
        faultIs(TWO + "way 0 1 0 after 0", "breaking;figure", NONE);
    }

    /** A text cut off behind each of its letters: its FAULT is at its end, or at a word or number that is cut. */
    private static void endTooSoon() {
        String text = "state 0 -5 10 7;way 9 0 16 under 2 -31;breaking;mask 15 16";
        String[] words = {"state", "way", "under", "breaking", "mask"};
        for (int length = 0; length < text.length(); length++) {
            String cut = text.substring(0, length);
            int want = length;
            int start = length;
            while (start > 0 && Character.isLowerCase(cut.charAt(start - 1))) {
                start--;
            }
            boolean isWhole = Arrays.asList(words).contains(cut.substring(start));
            if (start < length && !isWhole) {
                want = start;
            }
            boolean ends = length == 15 || length == 37 || length == 38 || length == 47 || length == 57;
            faultIs("", cut, ends ? NONE : want);
        }
        faultIs("", text, NONE);
    }

    private static void clausesInOrder() {
        MotionStates x = Check.told("mask 1 1;state 1 1 1 1;figure;state 2 2 2 2;mask 3 3;state 5 5 5 5;mask 4 2");
        due("states", x.count(0), 2);
        due("the first behind figure", x.value(0, 0), 102);
        due("the second", x.value(1, 0), 105);
        due("the latest mask", x.count(6), 4);
        due("the latest weight", x.count(7), 2);
        Check.write(x, "way 1 0 0 after 7;state 9 9 9 9");
        due("figure", x.figure(), 2);
        due("earlier texts' states stay", x.value(1, 3), 105);
        due("earlier texts' mask stays", x.count(6), 4);
        due("one more", x.value(2, 0), 109);
        Check.write(x, "way 2 1 1 trigger 1");
        x.figure();
        due("earlier ways stay", x.way(0, 6), 107);
        due("ways are numbered on", x.way(1, 5), 1);
    }

    /** Whatever a text tells, behind it both LAYERS begin anew. */
    private static void behindTheClauses() {
        MotionStates x = Check.told(THREE + "way 0 1 0 after 0;way 1 2 16 after 3;breaking");
        x.step(6);
        x.set(0, 1);
        x.pull(1);
        x.keep(0);
        x.shelf(2, 0, 0);
        Check.write(x, "mask 0 16");
        due("figure", x.figure(), 1);
        for (int layer = 0; layer < 2; layer++) {
            int[] parts = {0, 0, 0, 0, 1, NONE};
            for (int what = 0; what < 6; what++) {
                due("anew: layer(" + layer + ", " + what + ")", x.layer(layer, what), parts[what]);
            }
            for (int state = 0; state < 3; state++) {
                due("anew: share of " + state, x.share(layer, state), state == 0 ? 65536 : 0);
            }
        }
        for (int what : new int[] {3, 4, 5}) {
            due("anew: number", x.count(what), 100);
        }
        due("anew: triggers", x.count(2), 0);
        due("anew: undoable", x.count(9), 0);
        due("anew: kept", x.back(0), NOT);
        due("anew: a shelf without places", x.drop(2), NULL);
        due("anew: it can be pulled", x.pull(1), 1);
    }

    // ======== 2: FRAMES

    private static void frames() {
        afterSoMany();
        blendsOfAllFrames();
        lastedAtMost();
        oneWayAFrame();
        onlyItsOwnTrigger();
        toItselfNever();
        brokenWhen();
        brokenByNoFrames();
        brokenBackToWhereItWas();
        layersOneBehindAnother();
        ninetyNineAsOnes();
    }

    private static void afterSoMany() {
        for (int v : new int[] {0, 1, 2, 50, 98, 99}) {
            MotionStates x = Check.told(TWO + "way 0 1 0 after " + v);
            if (v > 0) {
                due("after " + v + ": not yet", x.step(v), 0);
                due("after " + v + ": lasted", x.layer(0, 1), v);
            }
            due("after " + v + ": foretold", x.until(0, 1), 1);
            due("after " + v + ": now", x.step(1), 1);
            due("after " + v + ": layer 1, too", x.layer(1, 0), 1);
            due("after " + v + ": lasted anew", x.layer(0, 1), 1);
        }
    }

    private static void blendsOfAllFrames() {
        for (int frames : FRAMES) {
            MotionStates x = Check.told(TWO + "way 0 1 " + frames + " trigger 0");
            x.pull(0);
            for (int done = 1; done <= Math.max(1, frames); done++) {
                boolean steady = done >= frames;
                String at = "frame " + done + " of " + frames + ": ";
                due(at + "in", x.step(1), 1);
                due(at + "lasted", x.layer(0, 1), done);
                due(at + "frames", x.layer(0, 2), steady ? 0 : frames);
                due(at + "done", x.layer(0, 3), steady ? 0 : done);
                due(at + "steady", x.layer(0, 4), steady ? 1 : 0);
                due(at + "way", x.layer(0, 5), steady ? NONE : 0);
                due(at + "new", x.bits(0, 1), Float.floatToIntBits(steady ? 1f : (float) done / frames));
                due(at + "old", x.bits(0, 0), Float.floatToIntBits(steady ? 0f : 1f - (float) done / frames));
                due(at + "whole", x.whole(0), 100);
            }
            x.step(1);
            due("behind it: lasted", x.layer(0, 1), Math.max(1, frames) + 1);
            due("behind it: share", x.share(0, 1), 65536);
        }
    }

    private static void lastedAtMost() {
        MotionStates x = Check.told(TWO + "way 0 1 0 trigger 0;way 1 0 0 after 99");
        for (int i = 0; i < 100; i++) {
            x.step(99);
        }
        due("9900", x.layer(0, 1), 9900);
        x.step(98);
        due("9998", x.layer(1, 1), 9998);
        x.step(1);
        due("9999", x.layer(1, 1), 9999);
        x.step(1);
        due("no more", x.layer(0, 1), 9999);
        due("no more, layer 1", x.layer(1, 1), 9999);
        x.pull(0);
        x.step(1);
        due("anew", x.layer(0, 1), 1);
        due("layer 1 as ever", x.layer(1, 1), 9999);
        due("undo", x.undo(), 7);
        due("undone", x.layer(0, 1), 9999);
    }

    private static void oneWayAFrame() {
        MotionStates x = Check.told(THREE + "way 0 1 0 after 0;way 1 2 0 after 0;way 2 0 0 after 0");
        for (int i = 1; i <= 7; i++) {
            due("one way a frame", x.step(1), i % 3);
            due("lasted 1", x.layer(0, 1), 1);
        }
        due("foretold", x.until(0, 0), 2);
    }

    /** A WAY by a NUMBER, or AFTER, leaves the TRIGGER of the same p alone. */
    private static void onlyItsOwnTrigger() {
        String[] conditions = {"after 0", "over 0 -1", "under 0 1", "over 1 -1", "under 2 1"};
        for (String condition : conditions) {
            MotionStates x = Check.told(TWO + "way 0 1 0 " + condition);
            x.pull(0);
            x.pull(1);
            x.pull(2);
            due(condition + ": taken", x.step(1), 1);
            due(condition + ": all stay pulled", x.count(2), 7);
        }
        MotionStates y = Check.told(TWO + "way 0 1 0 under 1 -5");
        due("0 is not less than -5", y.step(1), 0);
        y.set(1, 99);
        due("99 neither", y.step(1), 0);
        MotionStates z = Check.told(TWO + "way 0 1 0 over 1 5");
        z.set(1, -99);
        due("-99 is not more than 5", z.step(1), 0);
    }

    private static void toItselfNever() {
        MotionStates x = Check.told(TWO + "way 0 0 0 trigger 0;way 9 0 4 trigger 0;way 1 1 0 after 0;way 0 1 0 after 5");
        x.pull(0);
        x.step(5);
        due("to itself is not taken", x.count(2), 1);
        due("nor does it begin anew", x.layer(0, 1), 5);
        due("the next one is", x.step(1), 1);
        due("from any, to another", x.step(1), 0);
        due("by the trigger", x.count(2), 0);
    }

    private static void brokenWhen() {
        String ways = "way 0 1 4 trigger 0;breaking;way 1 2 4 trigger 1;way 2 0 1 trigger 2";
        for (int done = 1; done <= 4; done++) {
            MotionStates x = Check.told(THREE + ways);
            due("the first way is breaking", x.way(0, 3), 1);
            x.pull(0);
            x.step(done);
            x.pull(1);
            due("broken behind " + done, x.step(1), 2);
            due("share of 0, behind " + done, x.share(0, 0), 3 * 4096 * (4 - done));
            due("share of 1, behind " + done, x.share(0, 1), 3 * 4096 * done);
            due("share of 2, behind " + done, x.share(0, 2), 16384);
            due("its way", x.layer(0, 5), 1);
            x.pull(2);
            due("not broken: 2", x.step(1), 2);
            due("not broken: 3", x.step(1), 2);
            due("waits", x.count(2), 4);
            due("not broken: 4", x.step(1), 2);
            due("behind it", x.step(1), 0);
            due("1 frame: steady at once", x.layer(0, 4), 1);
        }
        MotionStates y = Check.told(THREE + "way 0 1 8 after 0;breaking;way 1 2 8 after 3");
        due("after, in a breaking blend", y.until(0, 2), 4);
        MotionStates z = Check.told(THREE + "way 0 1 8 after 0;way 1 2 8 after 3");
        due("after, in another", z.until(0, 2), 9);
    }

    private static void brokenByNoFrames() {
        MotionStates x = Check.told(THREE + "way 0 1 8 trigger 0;breaking;way 1 2 0 trigger 1;way 2 1 1 trigger 2");
        x.pull(0);
        x.step(3);
        x.pull(1);
        due("broken by 0 frames", x.step(1), 2);
        int[] parts = {2, 1, 0, 0, 1, NONE};
        for (int what = 0; what < 6; what++) {
            due("steady at once: " + what, x.layer(0, what), parts[what]);
        }
        for (int state = 0; state < 3; state++) {
            due("share of " + state, x.share(0, state), state == 2 ? 65536 : 0);
        }
    }

    private static void brokenBackToWhereItWas() {
        MotionStates x = Check.told(TWO + "way 0 1 4 trigger 0;breaking;way 1 0 4 trigger 1");
        x.pull(0);
        x.step(3);
        x.pull(1);
        due("back again", x.step(1), 0);
        due("share of 0", x.bits(0, 0), Float.floatToIntBits(0.25f * 0.75f + 0.25f));
        due("share of 1", x.bits(0, 1), Float.floatToIntBits(0.75f * 0.75f));
        x.step(3);
        due("wholly", x.share(0, 0), 65536);
        due("nothing of the other", x.bits(0, 1), 0);
    }

    private static void layersOneBehindAnother() {
        MotionStates x = Check.told(THREE + "way 0 1 0 trigger 0;way 0 2 0 trigger 1;way 1 2 0 over 0 5;way 2 1 0 over 0 5");
        x.pull(0);
        x.pull(1);
        due("layer 0 takes the first", x.step(1), 1);
        due("layer 1 takes what is left", x.layer(1, 0), 2);
        due("both are used up", x.count(2), 0);
        x.set(0, 6);
        due("a number serves both", x.step(1), 2);
        due("layer 1", x.layer(1, 0), 1);
    }

    private static void ninetyNineAsOnes() {
        String text = THREE + "way 9 1 16 after 5;breaking;way 9 2 8 after 3;breaking;way 2 0 4 after 2";
        MotionStates at = Check.told(text);
        MotionStates ones = Check.told(text);
        due("99 at once", at.step(99), stepOnes(ones, 99));
        for (int layer = 0; layer < 2; layer++) {
            for (int state = 0; state < 3; state++) {
                due("the same shares", at.bits(layer, state), ones.bits(layer, state));
            }
            for (int what = 0; what < 6; what++) {
                due("the same layer", at.layer(layer, what), ones.layer(layer, what));
            }
        }
        due("it is one that can be undone", at.count(9), 1);
        due("of 99 the last 8", ones.count(9), 8);
        due("undone as one", at.undo(), 0);
        due("at the begin", at.layer(0, 1), 0);
    }

    private static int stepOnes(MotionStates x, int n) {
        int in = NONE;
        for (int i = 0; i < n; i++) {
            in = x.step(1);
        }
        return in;
    }

    // ---- how it stands

    private static void standing() {
        cutTowardsZero();
        limbsAtTheirEnds();
        floatsInTheirOrder();
        tinyLimbsOfTwoSigns(true);
        tinyLimbsOfTwoSigns(false);
    }

    private static void cutTowardsZero() {
        MotionStates x = Check.told("state -1 1 -99 99;state 0 0 0 0;state 0 0 0 0;way 9 1 16 after 0;breaking;way 9 2 16 after 0;breaking");
        float share = 1f;
        for (int i = 1; i <= 30; i++) {
            x.step(1);
            share = share * 0.9375f;
            due("share cut " + i, x.share(0, 0), (long) Math.floor((double) share * 65536));
            long quarter = (long) Math.floor((double) share * 256);
            due("limb below zero cut " + i, x.limb(0), 1000000 - quarter);
            due("limb above zero cut " + i, x.limb(1), 1000000 + quarter);
            long most = (long) Math.floor((double) (24.75f * share) * 1024);
            due("limb least cut " + i, x.limb(2), 1000000 - most);
            due("limb most cut " + i, x.limb(3), 1000000 + most);
        }
    }

    private static void limbsAtTheirEnds() {
        MotionStates x = Check.told("state 99 -99 0 1;mask 15 16");
        int[] limbs = {1025344, 974656, 1000000, 1000256};
        double[] exact = {24.75, -24.75, 0.0, 0.25};
        for (int limb = 0; limb < 4; limb++) {
            due("limb " + limb, x.limb(limb), limbs[limb]);
            due("exact " + limb, x.exact(limb), Double.doubleToLongBits(exact[limb]));
        }
        due("bits of all", x.bits(1, 0), 0x3f800000);
        for (int weight : new int[] {0, 1, 15, 16}) {
            MotionStates y = Check.told("state 0 0 0 0;state 99 -99 4 -4;way 0 1 0 trigger 0;mask 15 " + weight);
            y.pull(0);
            y.step(1);
            float left = 1f - weight / 16f;
            float[] values = {24.75f, -24.75f, 1f, -1f};
            for (int limb = 0; limb < 4; limb++) {
                float want = values[limb] * left + 0f * (weight / 16f);
                due("weight " + weight + ": limb " + limb, y.limb(limb), (int) (want * 1024f) + 1000000);
                due("weight " + weight + ": exact " + limb, y.exact(limb), Double.doubleToLongBits((double) want));
            }
        }
    }

    /** Each float step rounds: the sums go from 0 on, rising, and LAYER 0 comes ahead of LAYER 1. */
    private static void floatsInTheirOrder() {
        MotionStates x = Check.told("state 99 -37 5 61;state -53 99 77 -7;state 31 -71 -99 99;"
            + "way 9 1 16 after 0;breaking;way 9 2 16 after 0;breaking;way 0 1 1 trigger 0;mask 10 5");
        float[][] quarters = {{24.75f, -9.25f, 1.25f, 15.25f}, {-13.25f, 24.75f, 19.25f, -1.75f}, {7.75f, -17.75f, -24.75f, 24.75f}};
        float[] shares = {1f, 0f, 0f};
        int otherWay = 0;
        for (int frame = 1; frame <= 50; frame++) {
            int in = x.step(1);
            fade(shares, in, 1f / 16f);
            for (int limb = 0; limb < 4; limb++) {
                float rising = 0f;
                float falling = 0f;
                for (int state = 0; state < 3; state++) {
                    rising = rising + quarters[state][limb] * shares[state];
                    falling = falling + quarters[2 - state][limb] * shares[2 - state];
                }
                otherWay += rising == falling ? 0 : 1;
                float want = limb % 2 == 0 ? rising : rising * (1f - 5f / 16f) + rising * (5f / 16f);
                due("frame " + frame + ", limb " + limb, x.exact(limb), Double.doubleToLongBits((double) want));
            }
            float sum = 0f;
            for (int state = 0; state < 3; state++) {
                sum = sum + shares[state];
            }
            due("frame " + frame + ", whole", x.whole(1), (int) ((sum - 1f) * 16777216f) + 100);
        }
        Check.holds("the order can be seen", otherWay > 20);
    }

    private static void fade(float[] shares, int in, float u) {
        for (int state = 0; state < shares.length; state++) {
            float faded = shares[state] * (1f - u);
            shares[state] = state == in ? faded + u : faded;
        }
    }

    /**
     * One LAYER's LIMB is just above zero, the other's just below: half and half that is the common zero. Both leave
     * by a number, in the same FRAME, so that both are the least there is.
     */
    private static void tinyLimbsOfTwoSigns(boolean isLowerAbove) {
        String values = isLowerAbove ? "state4 0 0 0;state-4 0 0 0;" : "state-4 0 0 0;state4 0 0 0;";
        MotionStates x = Check.told("state0 0 0 0;" + values + "state0 0 0 0;way0 1 0trigger1;way0 2 0trigger2;"
            + "way1 3 2over0 0;breaking;way2 3 2over0 0;breaking;way3 0 2after0;breaking;way0 3 2after0;breaking;mask1 8");
        x.pull(1);
        x.pull(2);
        x.step(1);
        due("layers apart", x.layer(0, 0) * 10 + x.layer(1, 0), 12);
        x.set(0, 1);
        x.step(99);
        x.step(50);
        due("the least share", x.bits(0, 1), 1);
        due("the least share, layer 1", x.bits(1, 2), 1);
        due("the common zero", x.exact(0), 0L);
        x.step(1);
        due("nothing is left", x.bits(0, 1) + x.bits(1, 2), 0);
        due("the zero of nothing", x.exact(0), 0L);
    }

    // ======== 3: FORETOLD

    private static void foretold() {
        reachAlongAll();
        deadEnds();
        untilThreeHundred();
        pulledOrNot();
    }

    private static void reachAlongAll() {
        String six = "state0 0 0 0;".repeat(6);
        MotionStates down = Check.told(six + "way5 4 0after9;way4 3 0after9;way3 2 0after9;way2 1 0after9;way1 0 0after9");
        MotionStates up = Check.told(six + "way4 5 0after9;way3 4 0after9;way2 3 0after9;way1 2 0after9;way0 1 0after9");
        for (int state = 0; state < 6; state++) {
            due("down from " + state, down.reach(state), (2 << state) - 1);
            due("up from " + state, up.reach(state), 63 - ((1 << state) - 1));
        }
        due("down: dead", down.dead(), 1);
        due("up: dead", up.dead(), 32);
        MotionStates any = Check.told(six + "way9 5 0trigger0;way5 0 0over0 99");
        for (int state = 1; state < 5; state++) {
            due("by any", any.reach(state), 33 | 1 << state);
        }
        due("no condition is looked at", any.reach(5), 33);
        due("no dead end", any.dead(), 0);
        due("none by ways: until", any.until(0, 5), NONE);
    }

    private static void deadEnds() {
        MotionStates x = Check.told(THREE + "way 0 0 0 after 0;way 1 1 4 trigger 0");
        due("ways to itself lead nowhere", x.dead(), 7);
        due("reach of itself", x.reach(1), 2);
        Check.write(x, "way 9 1 0 after 99");
        x.figure();
        due("from any, but not from itself", x.dead(), 2);
        due("reach from 0", x.reach(0), 3);
        Check.write(x, "way 1 2 16 under 0 -99");
        x.figure();
        due("none is dead", x.dead(), 0);
        due("reach from 2", x.reach(2), 6);
    }

    private static void untilThreeHundred() {
        for (int last : new int[] {2, 3, 4}) {
            MotionStates x = Check.told("state0 0 0 0;state1 1 1 1;state2 2 2 2;state3 3 3 3;state4 4 4 4;"
                + "way0 1 0after99;way1 2 0after99;way2 3 0after98;way3 4 0after" + last);
            for (int layer = 0; layer < 2; layer++) {
                due("until 1", x.until(layer, 1), 100);
                due("until 2", x.until(layer, 2), 199);
                due("until 3", x.until(layer, 3), 297);
                due("until 4, after " + last, x.until(layer, 4), last <= 3 ? 297 + last : NONE);
                due("until itself", x.until(layer, 0), 0);
            }
            due("nothing changed", x.layer(0, 1) + x.count(9), 0);
            x.step(1);
            due("a frame on", x.until(1, 4), 296 + last);
            due("never back", x.until(1, 0), 0);
        }
        MotionStates y = Check.told(TWO + "way 0 1 4 trigger 0;way 1 0 4 trigger 1");
        due("no trigger", y.until(0, 1), NONE);
        y.pull(0);
        due("a trigger", y.until(0, 1), 1);
        due("layer 0 has it", y.until(1, 1), NONE);
        y.pull(1);
        y.step(1);
        due("behind the blend", y.until(0, 0), 4);
        due("then layer 1 has none", y.until(1, 1), NONE);
    }

    private static void pulledOrNot() {
        MotionStates x = Check.told(THREE + "way 0 2 0 after 2;way 0 1 8 trigger 1;way 1 0 0 trigger 2;way 2 1 0 trigger 0");
        due("pulled(0, 1)", x.pulled(0, 1), 1);
        due("pulled(1, 1): layer 0 is first", x.pulled(1, 1), 0);
        due("pulled(0, 0): it goes on without", x.pulled(0, 0), 0);
        x.step(2);
        due("another way is first", x.pulled(0, 1), 2);
        due("then layer 1 is before it, too", x.pulled(1, 1), 2);
        x.pull(0);
        due("it is pulled", x.pulled(0, 0), NOT);
        x.step(1);
        due("not used in that frame", x.count(2), 1);
        due("already pulled ones serve on", x.pulled(0, 2), 1);
        due("layer 1 finds it used", x.pulled(1, 2), 2);
        due("nothing is pulled by it", x.count(2), 1);
        due("no undo by it", x.count(9), 3);
    }

    // ---- what is done

    private static void doneAndUndone() {
        lastEightOfAllSorts();
        undoneAndDoneAgain();
        keptAndBack();
    }

    private static void lastEightOfAllSorts() {
        MotionStates x = Check.told(TWO + "way 0 1 0 trigger 0;way 1 0 0 trigger 0");
        for (int i = 1; i <= 4; i++) {
            x.pull(0);
            x.set(1, i);
            x.step(i);
        }
        due("8 of 12", x.count(9), 8);
        due("undo the step", x.undo(), 7);
        due("the state before it", x.layer(0, 0), 1);
        due("pulled before it", x.count(2), 1);
        due("undo the set", x.undo(), 6);
        due("the number before it", x.count(4), 103);
        due("undo the pull", x.undo(), 5);
        due("not pulled before it", x.count(2), 0);
        for (int left = 4; left >= 0; left--) {
            due("undo", x.undo(), left);
            due("so many yet", x.count(9), left);
        }
        due("undo no more", x.undo(), NOT);
        due("behind the second round's pull", x.count(2), 1);
        due("its number is not set", x.count(4), 101);
        due("lasted of the first step", x.layer(0, 1), 1);
    }

    private static void undoneAndDoneAgain() {
        MotionStates x = new MotionStates();
        for (int i = 1; i <= 13; i++) {
            x.set(0, i);
        }
        for (int i = 0; i < 5; i++) {
            due("undo", x.undo(), 7 - i);
        }
        due("number", x.count(3), 108);
        for (int i = 1; i <= 3; i++) {
            x.set(0, 50 + i);
        }
        due("undoable", x.count(9), 6);
        int[] numbers = {52, 51, 8, 7, 6, 5};
        for (int i = 0; i < 6; i++) {
            due("undo again", x.undo(), 5 - i);
            due("number again", x.count(3), 100 + numbers[i]);
        }
        due("no more", x.undo(), NOT);
        due("nor is it changed", x.count(3), 105);
    }

    private static void keptAndBack() {
        MotionStates x = Check.told(TWO + "way 0 1 4 trigger 0");
        x.keep(0);
        x.pull(0);
        due("keep(1)", x.keep(1), 0);
        x.step(2);
        due("undoable", x.count(9), 2);
        due("back(1)", x.back(1), 0);
        due("its trigger", x.count(2), 1);
        due("nothing can be undone", x.undo(), NOT);
        x.step(1);
        due("undo behind back", x.undo(), 0);
        due("as it was kept", x.layer(0, 1), 0);
        due("back(0)", x.back(0), 0);
        due("no trigger", x.count(2), 0);
        due("back(1) is kept yet", x.back(1), 0);
        x.step(1);
        due("keep anew", x.keep(1), 1);
        x.step(5);
        due("back to the new one", x.back(1), 1);
        due("done 1", x.layer(0, 3), 1);
        Check.write(x, "oh");
        due("a faulty text", x.figure(), NOT);
        due("leaves what is kept", x.back(1), 1);
        x.erase();
        Check.write(x, "mask 1 1");
        x.figure();
        due("a text does not: 0", x.back(0), NOT);
        due("a text does not: 1", x.back(1), NOT);
        due("keep again", x.keep(1), 0);
        due("back(0) is not", x.back(0), NOT);
        due("back(1) is", x.back(1), 0);
    }

    // ======== 4: SHELVES

    private static void shelves() {
        zeroToEightPlaces();
        sortsOfMarks();
        numbersOfMarks();
        anewAndAway();
        thingsOnAll();
    }

    private static void zeroToEightPlaces() {
        MotionStates x = new MotionStates();
        for (int n = 0; n <= 8; n++) {
            due("shelf of " + n, x.shelf(n % 3, 0, n), n);
            for (int place = 0; place < n; place++) {
                due("empty at first", x.look(n % 3, place), EMPTY);
                due("lay", x.lay(n % 3, place, 1, place), place);
            }
            due("no place " + n, x.look(n % 3, n), INDEX);
            due("no place below", x.lift(n % 3, -1), INDEX);
            due("nor to lay on", x.lay(n % 3, n, 1, 0), INDEX);
            due("nor by far", x.lay(n % 3, HIGH, 1, 0), INDEX);
            due("places", x.drop(n % 3), n);
            due("missing", x.drop(n % 3), NULL);
        }
    }

    private static void sortsOfMarks() {
        for (int madeFor = 0; madeFor <= 2; madeFor++) {
            MotionStates x = new MotionStates();
            x.shelf(0, madeFor, 1);
            x.shelf(1, 0, 2);
            x.lay(1, 0, 1, 11);
            x.lay(1, 1, 2, 22);
            for (int sort = 1; sort <= 2; sort++) {
                boolean takes = madeFor == 0 || madeFor == sort;
                due("lay " + sort + " on " + madeFor, x.lay(0, 0, sort, 7), takes ? 7 : STORE);
                due("hand " + sort + " to " + madeFor, x.hand(1, sort - 1, 0, 0), takes ? 1 : STORE);
                due("a likeness takes", x.likeness(2, 0), 1);
                due("the same", x.hand(1, sort - 1, 2, 0), takes ? 1 : STORE);
                due("it stays where it was, too", x.look(1, sort - 1), sort == 1 ? 11 : 1022);
            }
        }
    }

    private static void numbersOfMarks() {
        MotionStates x = new MotionStates();
        x.shelf(0, 0, 2);
        for (int v : new int[] {0, 1, 998, 999}) {
            due("dot", x.lay(0, 0, 1, v), v);
            due("stroke", x.lay(0, 1, 2, v), v);
            due("look dot", x.look(0, 0), v);
            due("look stroke", x.look(0, 1), 1000 + v);
            due("lift dot", x.lift(0, 0), v);
            due("lift stroke", x.lift(0, 1), 1000 + v);
            due("lifted", x.look(0, 0), EMPTY);
            due("lift again", x.lift(0, 1), EMPTY);
        }
    }

    private static void anewAndAway() {
        MotionStates x = new MotionStates();
        x.shelf(0, 1, 8);
        x.lay(0, 0, 1, 1);
        due("anew", x.shelf(0, 2, 1), 1);
        due("without what was", x.look(0, 0), EMPTY);
        due("of another sort", x.lay(0, 0, 2, 1), 1);
        due("with fewer places", x.look(0, 1), INDEX);
        due("likeness of a larger one", x.shelf(1, 0, 8) + x.likeness(0, 1), 16);
        due("its last place", x.look(0, 7), EMPTY);
        due("made for any", x.lay(0, 7, 1, 3), 3);
        due("not in the other", x.look(1, 7), EMPTY);
        due("likeness of itself", x.likeness(0, 0), 8);
        due("as it was", x.look(0, 7), 3);
        due("drop", x.drop(0), 8);
        due("likeness of the missing one", x.likeness(1, 0), NULL);
        due("likeness where none is", x.likeness(0, 1), 8);
        due("with nothing on it", x.look(0, 7), EMPTY);
    }

    private static void thingsOnAll() {
        MotionStates x = new MotionStates();
        for (int shelf = 0; shelf < 3; shelf++) {
            x.shelf(shelf, 0, 8);
            for (int place = 0; place < 8; place++) {
                due("things", x.count(8), shelf * 8 + place);
                x.lay(shelf, place, 1 + place % 2, 0);
            }
        }
        due("24 things", x.count(8), 24);
        x.lay(0, 0, 2, 5);
        due("laid over", x.count(8), 24);
        x.lift(1, 7);
        due("lifted", x.count(8), 23);
        x.hand(0, 0, 1, 7);
        due("handed", x.count(8), 24);
        x.drop(2);
        due("dropped", x.count(8), 16);
        x.shelf(0, 0, 8);
        due("anew", x.count(8), 8);
        x.likeness(2, 1);
        due("likeness", x.count(8), 16);
        due("marks are not undone", x.undo(), NOT);
    }
}
