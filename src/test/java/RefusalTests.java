import java.util.ArrayList;
import java.util.Arrays;
import java.util.List;

/**
 * Every refusal of the document, in figures that stand in four ways: the first that fits is answered (UNKNOWN,
 * OUTSIDE, NOT, FULL, then NULL, SIZE, INDEX, STORE, EMPTY), and whatever can be seen is as if the call had not been.
 */
public final class RefusalTests {
    private static final int UNKNOWN = -2, OUTSIDE = -3, NOT = -4, FULL = -5;
    private static final int NULL = -11, SIZE = -12, INDEX = -13, STORE = -14, EMPTY = -15;
    private static final int LOW = Integer.MIN_VALUE, HIGH = Integer.MAX_VALUE;
    private static final String NEW = "new", BARE = "no states", MOVING = "moving", FILLED = "filled";

    private final String name;
    private final List<List<Long>> views;

    private RefusalTests(String name) {
        this.name = name;
        views = viewsBehind("count", 0);
    }

    public static void main(String[] args) {
        for (String name : new String[] {NEW, BARE, MOVING, FILLED}) {
            RefusalTests tests = new RefusalTests(name);
            tests.ofWhatIsTold();
            tests.ofWhatIsDone();
            tests.ofHowItStands();
            tests.ofShelves();
            tests.answersAlone();
        }
        withoutStates(new RefusalTests(NEW));
        withoutStates(new RefusalTests(BARE));
        asNew(new RefusalTests(NEW));
        asBare(new RefusalTests(BARE));
        whileMoving(new RefusalTests(MOVING));
        whenFilled(new RefusalTests(FILLED));
        Check.finish();
    }

    // ---- how the figures stand

    private MotionStates made() {
        switch (name) {
            case NEW: return new MotionStates();
            case BARE: return bare();
            case MOVING: return moving();
            default: return filled();
        }
    }

    private int states() {
        return name.equals(MOVING) ? 3 : name.equals(FILLED) ? 2 : 0;
    }

    private int ways() {
        return name.equals(MOVING) ? 4 : name.equals(FILLED) ? 1 : 0;
    }

    private static MotionStates bare() {
        MotionStates x = Check.told("mask 6 3");
        x.set(1, -5);
        x.keep(1);
        x.pull(2);
        x.shelf(0, 0, 2);
        x.lay(0, 1, 2, 7);
        Check.write(x, "state 1 2 3 4");
        return x;
    }

    /** In a breaking blend, half done; SHELF 0 for all, with an empty place, SHELF 1 for dots, SHELF 2 missing. */
    private static MotionStates moving() {
        MotionStates x = Check.told("state 4 -8 0 99;state 40 8 -99 1;state 0 0 16 3;"
            + "way 0 1 4 trigger 0;breaking;way 1 2 8 trigger 1;way 2 0 0 after 3;way 9 2 16 over 2 50;mask 5 4");
        x.set(1, 7);
        x.pull(0);
        x.step(2);
        x.keep(1);
        x.pull(2);
        x.set(0, -3);
        x.shelf(0, 0, 4);
        x.lay(0, 0, 1, 5);
        x.lay(0, 1, 2, 999);
        x.shelf(1, 1, 3);
        x.lay(1, 2, 1, 0);
        Check.write(x, "state 1 2 3");
        return x;
    }

    /** 200 letters without a fault; 8 that can be undone; SHELF 0 full of strokes, SHELF 1 without places, SHELF 2 of one. */
    private static MotionStates filled() {
        MotionStates x = Check.told("state 1 2 3 4;state -9 8 -7 6;way 0 1 16 after 4");
        x.step(7);
        x.keep(0);
        x.keep(1);
        for (int i = 0; i < 8; i++) {
            x.set(i % 3, 99 - i);
        }
        x.pull(0);
        x.pull(1);
        x.pull(2);
        x.shelf(0, 2, 8);
        for (int i = 0; i < 8; i++) {
            x.lay(0, i, 2, i);
        }
        x.shelf(1, 1, 0);
        x.shelf(2, 0, 1);
        Check.write(x, "breaking" + " ".repeat(182) + ";mask 9 12");
        return x;
    }

    // ---- what a refused call must be

    private List<List<Long>> viewsBehind(String call, int... given) {
        List<List<Long>> seen = new ArrayList<>();
        for (int which = 0; which < Views.VIEWS; which++) {
            MotionStates x = made();
            Views.call(x, call, given);
            seen.add(Views.view(which, x));
        }
        return seen;
    }

    private void refused(int want, String call, int... given) {
        String shown = name + ": " + call + Arrays.toString(given);
        Check.due(shown, Views.call(made(), call, given), want);
        Check.holds(shown + " changes nothing", viewsBehind(call, given).equals(views));
    }

    /** What a number is that is no place in so many. */
    private static int[] beyond(int many) {
        return new int[] {LOW, -many - 1, -1, many, many + 1, HIGH};
    }

    private void ofWhatIsTold() {
        for (int no : beyond(256)) {
            refused(OUTSIDE, "write", no);
        }
        for (int no : beyond(states())) {
            refused(UNKNOWN, "value", no, 0);
            refused(UNKNOWN, "value", no, 4);
        }
        for (int no : beyond(4)) {
            refused(UNKNOWN, "value", 0, no);
        }
        for (int no : beyond(ways())) {
            refused(UNKNOWN, "way", no, 0);
            refused(UNKNOWN, "way", no, 7);
            refused(UNKNOWN, "way", no, -1);
        }
        for (int no : beyond(7)) {
            refused(ways() > 0 ? OUTSIDE : UNKNOWN, "way", 0, no);
        }
    }

    private void ofWhatIsDone() {
        for (int no : beyond(3)) {
            refused(UNKNOWN, "set", no, 1);
            refused(UNKNOWN, "set", no, 100);
            refused(UNKNOWN, "set", no, LOW);
            refused(UNKNOWN, "pull", no);
        }
        for (int no : new int[] {LOW, -101, -100, 100, 101, HIGH}) {
            refused(OUTSIDE, "set", 0, no);
            refused(OUTSIDE, "set", 2, no);
        }
        for (int no : new int[] {LOW, -1, 0, 100, 101, HIGH}) {
            refused(OUTSIDE, "step", no);
        }
        for (int no : beyond(2)) {
            refused(UNKNOWN, "keep", no);
            refused(UNKNOWN, "back", no);
        }
    }

    private void ofHowItStands() {
        for (int no : beyond(2)) {
            refused(UNKNOWN, "layer", no, 0);
            refused(UNKNOWN, "layer", no, 6);
            refused(UNKNOWN, "share", no, 0);
            refused(UNKNOWN, "bits", no, 0);
            refused(UNKNOWN, "whole", no);
            refused(UNKNOWN, "until", no, 0);
            refused(UNKNOWN, "pulled", no, 0);
            refused(UNKNOWN, "pulled", no, 3);
        }
        for (int no : beyond(6)) {
            refused(OUTSIDE, "layer", 0, no);
            refused(OUTSIDE, "layer", 1, no);
        }
        for (int no : beyond(states())) {
            refused(UNKNOWN, "share", 1, no);
            refused(UNKNOWN, "bits", 1, no);
            refused(UNKNOWN, "reach", no);
            refused(UNKNOWN, "until", 1, no);
        }
        for (int no : beyond(4)) {
            refused(UNKNOWN, "limb", no);
            refused(UNKNOWN, "exact", no);
        }
        for (int no : beyond(3)) {
            refused(UNKNOWN, "pulled", 0, no);
            refused(UNKNOWN, "pulled", 1, no);
        }
    }

    private void ofShelves() {
        for (int no : beyond(3)) {
            refused(UNKNOWN, "shelf", no, 0, 1);
            refused(UNKNOWN, "shelf", no, 3, 9);
            refused(UNKNOWN, "shelf", no, 0, -1);
            refused(UNKNOWN, "lay", no, 0, 1, 1);
            refused(UNKNOWN, "lay", no, -1, 0, 1000);
            refused(UNKNOWN, "look", no, 0);
            refused(UNKNOWN, "look", no, -1);
            refused(UNKNOWN, "lift", no, 0);
            refused(UNKNOWN, "lift", no, -1);
            refused(UNKNOWN, "likeness", no, 0);
            refused(UNKNOWN, "likeness", 0, no);
            refused(UNKNOWN, "hand", no, 0, 0, 0);
            refused(UNKNOWN, "hand", 0, 0, no, 0);
            refused(UNKNOWN, "hand", no, -1, 0, -1);
            refused(UNKNOWN, "hand", 0, 9, no, 9);
            refused(UNKNOWN, "drop", no);
        }
        for (int shelf = 0; shelf < 3; shelf++) {
            shelvesOutside(shelf);
        }
        for (int no : beyond(11)) {
            refused(OUTSIDE, "count", no);
        }
    }

    private void shelvesOutside(int shelf) {
        for (int no : beyond(3)) {
            refused(OUTSIDE, "shelf", shelf, no, 1);
            refused(OUTSIDE, "shelf", shelf, no, 9);
            refused(OUTSIDE, "shelf", shelf, no, -1);
        }
        for (int no : new int[] {9, 10, HIGH}) {
            refused(OUTSIDE, "shelf", shelf, 0, no);
            refused(OUTSIDE, "shelf", shelf, 2, no);
        }
        for (int no : new int[] {-1, -2, LOW}) {
            refused(SIZE, "shelf", shelf, 0, no);
            refused(SIZE, "shelf", shelf, 2, no);
        }
        for (int no : new int[] {LOW, -1, 0, 3, 4, HIGH}) {
            refused(OUTSIDE, "lay", shelf, 0, no, 1);
            refused(OUTSIDE, "lay", shelf, 9, no, 1);
        }
        for (int no : new int[] {LOW, -1, 1000, 1001, HIGH}) {
            refused(OUTSIDE, "lay", shelf, 0, 1, no);
            refused(OUTSIDE, "lay", shelf, -1, 2, no);
        }
    }

    /** Calls that only answer: FORETOLD and the like change nothing either. */
    private void answersAlone() {
        changesNothing("fault");
        changesNothing("dead");
        for (int i = 0; i < 6; i++) {
            changesNothing("value", i / 2, i % 2 * 3);
            changesNothing("way", i / 2, i % 2 * 6);
            changesNothing("layer", i % 2, i);
            changesNothing("share", i % 2, i / 2);
            changesNothing("bits", i % 2, i / 2);
            changesNothing("until", i % 2, i / 2);
            changesNothing("pulled", i % 2, i / 2);
            changesNothing("look", i / 2, i % 2);
            changesNothing("reach", i / 2);
            changesNothing("limb", i % 4);
            changesNothing("exact", i % 4);
            changesNothing("whole", i % 2);
        }
        for (int what = 0; what <= 10; what++) {
            changesNothing("count", what);
        }
    }

    private void changesNothing(String call, int... given) {
        String shown = name + ": " + call + Arrays.toString(given);
        MotionStates x = made();
        long once = Views.call(x, call, given);
        Check.due(shown + " again", Views.call(x, call, given), once);
        Check.holds(shown + " changes nothing", viewsBehind(call, given).equals(views));
    }

    // ---- NOT, FULL and what the machine finds, as each figure stands

    private static void withoutStates(RefusalTests t) {
        t.refused(NOT, "step", 1);
        t.refused(NOT, "step", 99);
        t.refused(NOT, "dead");
        for (int i = 0; i < 6; i++) {
            t.refused(NOT, "layer", 0, i);
            t.refused(NOT, "layer", 1, i);
            t.refused(NOT, "limb", i % 4);
            t.refused(NOT, "exact", i % 4);
            t.refused(NOT, "whole", i % 2);
            t.refused(NOT, "pulled", i % 2, i / 2);
            // No STATE is known, so that these are never NOT.
            t.refused(UNKNOWN, "share", i % 2, i);
            t.refused(UNKNOWN, "bits", i % 2, i);
            t.refused(UNKNOWN, "until", i % 2, i);
            t.refused(UNKNOWN, "reach", i);
            t.refused(UNKNOWN, "value", i, i % 4);
        }
    }

    private static void asNew(RefusalTests t) {
        t.refused(NOT, "figure");
        t.refused(NOT, "undo");
        t.refused(NOT, "back", 0);
        t.refused(NOT, "back", 1);
        for (int number = 0; number < 3; number++) {
            t.refused(NOT, "set", number, 0);
        }
        for (int shelf = 0; shelf < 3; shelf++) {
            for (int place : new int[] {-1, 0, 8}) {
                t.refused(NULL, "lay", shelf, place, 1, 0);
                t.refused(NULL, "look", shelf, place);
                t.refused(NULL, "lift", shelf, place);
                t.refused(NULL, "hand", shelf, place, (shelf + 1) % 3, 0);
                t.refused(NULL, "hand", shelf, 0, shelf, place);
            }
            t.refused(NULL, "likeness", shelf, 0);
            t.refused(NULL, "likeness", shelf, shelf);
            t.refused(NULL, "drop", shelf);
        }
    }

    private static void asBare(RefusalTests t) {
        t.refused(NOT, "back", 0);
        t.refused(NOT, "set", 1, -5);
        t.refused(NOT, "set", 0, 0);
        t.refused(NOT, "pull", 2);
    }

    private static void whileMoving(RefusalTests t) {
        t.refused(NOT, "figure");
        t.refused(NOT, "set", 0, -3);
        t.refused(NOT, "set", 1, 7);
        t.refused(NOT, "set", 2, 0);
        t.refused(NOT, "pull", 2);
        t.refused(NOT, "pulled", 0, 2);
        t.refused(NOT, "pulled", 1, 2);
        t.refused(NOT, "back", 0);
        for (int no : new int[] {-1, 4, 8, LOW, HIGH}) {
            t.refused(INDEX, "lay", 0, no, 1, 1);
            t.refused(INDEX, "look", 0, no);
            t.refused(INDEX, "lift", 0, no);
            t.refused(INDEX, "hand", 0, no, 1, 0);
            t.refused(INDEX, "hand", 1, 2, 0, no);
            t.refused(INDEX, "hand", 0, 0, 0, no);
            // NULL is ahead of INDEX, INDEX ahead of STORE and EMPTY.
            t.refused(NULL, "hand", 0, no, 2, 0);
            t.refused(NULL, "hand", 2, 0, 0, no);
            t.refused(NULL, "lay", 2, no, 2, 1);
            t.refused(NULL, "look", 2, no);
            t.refused(NULL, "lift", 2, no);
            t.refused(INDEX, "lay", 1, no, 2, 1);
            t.refused(INDEX, "hand", 0, 1, 1, no);
            t.refused(INDEX, "hand", 0, 2, 1, no);
            t.refused(INDEX, "hand", 1, no, 0, 2);
        }
        t.refused(INDEX, "look", 1, 3);
        t.refused(INDEX, "hand", 0, 0, 1, 3);
        t.refused(INDEX, "hand", 1, 3, 0, 0);
        t.refused(STORE, "lay", 1, 0, 2, 0);
        t.refused(STORE, "lay", 1, 2, 2, 999);
        t.refused(STORE, "hand", 0, 1, 1, 0);
        t.refused(STORE, "hand", 0, 1, 1, 2);
        t.refused(EMPTY, "look", 0, 2);
        t.refused(EMPTY, "lift", 0, 3);
        t.refused(EMPTY, "lift", 1, 0);
        t.refused(EMPTY, "hand", 0, 2, 1, 2);
        t.refused(EMPTY, "hand", 1, 0, 0, 1);
        t.refused(EMPTY, "hand", 0, 3, 0, 0);
        t.refused(NULL, "likeness", 0, 2);
        t.refused(NULL, "likeness", 2, 2);
        t.refused(NULL, "hand", 0, 0, 2, 0);
        t.refused(NULL, "hand", 2, 0, 0, 0);
        t.refused(NULL, "drop", 2);
    }

    private static void whenFilled(RefusalTests t) {
        for (int letter : new int[] {0, 32, 59, 97, 255}) {
            t.refused(FULL, "write", letter);
        }
        for (int trigger = 0; trigger < 3; trigger++) {
            t.refused(NOT, "pull", trigger);
            t.refused(NOT, "pulled", 0, trigger);
            t.refused(NOT, "pulled", 1, trigger);
        }
        t.refused(INDEX, "lay", 0, 8, 2, 1);
        t.refused(INDEX, "lay", 0, 8, 1, 1);
        t.refused(STORE, "lay", 0, 7, 1, 1);
        t.refused(INDEX, "look", 1, 0);
        t.refused(INDEX, "lift", 1, 0);
        t.refused(INDEX, "lay", 1, 0, 1, 1);
        t.refused(INDEX, "lay", 1, 0, 2, 1);
        t.refused(INDEX, "hand", 0, 0, 1, 0);
        t.refused(INDEX, "hand", 1, 0, 0, 0);
        t.refused(EMPTY, "look", 2, 0);
        t.refused(EMPTY, "lift", 2, 0);
        t.refused(EMPTY, "hand", 2, 0, 0, 0);
        t.refused(EMPTY, "hand", 2, 0, 2, 0);
        t.refused(INDEX, "hand", 2, 1, 0, 0);
        t.refused(INDEX, "hand", 0, 0, 2, 1);
    }
}
