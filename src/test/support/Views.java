import java.lang.reflect.Method;
import java.util.ArrayList;
import java.util.Arrays;
import java.util.List;

/**
 * All that can be seen of an object, as rows of answers. Each view is for an object of its own, since some change it
 * and all of them together would take more than the 512 calls that an object is good for.
 */
final class Views {
    static final int VIEWS = 5;

    private Views() {
    }

    static List<Long> view(int which, MotionStates x) {
        List<Long> seen = new ArrayList<>();
        switch (which) {
            case 0: standing(x, seen); break;
            case 1: goingOn(x, seen); break;
            case 2: undone(x, seen); break;
            case 3: kept(x, seen); break;
            default: toldNext(x, seen); break;
        }
        return seen;
    }

    /** One call by its name. */
    static long call(MotionStates x, String name, int... given) {
        for (Method method : MotionStates.class.getDeclaredMethods()) {
            if (method.getName().equals(name) && method.getParameterCount() == given.length) {
                try {
                    return ((Number) method.invoke(x, Arrays.stream(given).boxed().toArray())).longValue();
                } catch (ReflectiveOperationException e) {
                    throw new IllegalStateException(name + Arrays.toString(given), e);
                }
            }
        }
        throw new IllegalStateException("no such call: " + name + Arrays.toString(given));
    }

    private static void motion(MotionStates x, List<Long> seen) {
        for (int what = 2; what <= 5; what++) {
            seen.add((long) x.count(what));
        }
        int states = x.count(0);
        for (int layer = 0; layer < 2; layer++) {
            for (int what = 0; what < 6; what++) {
                seen.add((long) x.layer(layer, what));
            }
            for (int state = 0; state < states; state++) {
                seen.add((long) x.bits(layer, state));
            }
        }
    }

    private static void figure(MotionStates x, List<Long> seen) {
        for (int what : new int[] {0, 1, 6, 7}) {
            seen.add((long) x.count(what));
        }
        int states = x.count(0);
        for (int i = 0; i < states * 4; i++) {
            seen.add((long) x.value(i / 4, i % 4));
        }
        int ways = x.count(1);
        for (int i = 0; i < ways * 7; i++) {
            seen.add((long) x.way(i / 7, i % 7));
        }
    }

    private static void standing(MotionStates x, List<Long> seen) {
        figure(x, seen);
        motion(x, seen);
        for (int what = 8; what <= 10; what++) {
            seen.add((long) x.count(what));
        }
        seen.add((long) x.fault());
        for (int limb = 0; limb < 4; limb++) {
            seen.add(x.exact(limb));
        }
        for (int i = 0; i < 27; i++) {
            seen.add((long) x.look(i / 9, i % 9));
        }
        for (int shelf = 0; shelf < 3; shelf++) {
            seen.add((long) x.lay(shelf, 0, 1, 1));
            seen.add((long) x.lay(shelf, 0, 2, 1));
        }
    }

    /** What frames show that nothing shows at once: the shares with which a blend began. */
    private static void goingOn(MotionStates x, List<Long> seen) {
        motion(x, seen);
        for (int i = 0; i < 4; i++) {
            seen.add((long) x.step(1));
            motion(x, seen);
        }
    }

    private static void undone(MotionStates x, List<Long> seen) {
        for (int i = 0; i < 9; i++) {
            seen.add((long) x.undo());
            motion(x, seen);
        }
    }

    private static void kept(MotionStates x, List<Long> seen) {
        for (int k = 0; k < 2; k++) {
            seen.add((long) x.back(k));
            motion(x, seen);
            seen.add((long) x.count(9));
            seen.add((long) x.step(1));
            motion(x, seen);
        }
    }

    private static void toldNext(MotionStates x, List<Long> seen) {
        seen.add((long) x.fault());
        seen.add((long) x.figure());
        figure(x, seen);
        motion(x, seen);
        seen.add((long) x.count(9));
        seen.add((long) x.erase());
    }
}
