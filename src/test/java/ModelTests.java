import java.lang.reflect.Method;
import java.lang.reflect.Modifier;
import java.util.ArrayList;
import java.util.Arrays;
import java.util.HashMap;
import java.util.List;
import java.util.Map;
import java.util.Random;

/** Runs of chosen calls, always the same ones, on the program and on the Model: each answer must be the same. */
public final class ModelTests {
    private static final int CALLS = 512;
    private static final Map<String, Method> PROGRAM = methodsOf(MotionStates.class);
    private static final Map<String, Method> MODEL = methodsOf(Model.class);
    private static final int[] FRAMES = {0, 1, 2, 4, 8, 16};
    private static final int[] EXTREMES = {-1, 99, 100, 255, 256, 1000, -99, -100, Integer.MIN_VALUE, Integer.MAX_VALUE, 12, 13};

    private final Random chance;
    private final MotionStates program = new MotionStates();
    private final Model model = new Model();
    private final List<String> made = new ArrayList<>();
    private int calls = 0;
    private boolean differs = false;

    private ModelTests(long seed) {
        chance = new Random(seed);
    }

    public static void main(String[] args) {
        int runs = args.length > 0 ? Integer.parseInt(args[0]) : 3000;
        for (int seed = 1; seed <= runs && Check.wrongSoFar() < 5; seed++) {
            ModelTests run = new ModelTests(seed);
            switch (seed % 4) {
                case 0: run.readMany(); break;
                case 1: run.layMany(); break;
                default: run.moveMuch(); break;
            }
        }
        Check.finish();
    }

    // ---- the kinds of runs

    private void readMany() {
        while (mayGoOn(230)) {
            String text = goodText(20 + chance.nextInt(180));
            if (chance.nextInt(3) > 0) {
                text = spoiled(text);
            }
            tell(text);
            make("fault");
            make(chance.nextInt(3) > 0 ? "figure" : "erase");
            make("count", 0);
            make("count", 1);
            for (int i = 0; i < 7; i++) {
                make("way", model.count(1) - 1, i);
                make("value", model.count(0) - 1, i);
            }
        }
    }

    private void layMany() {
        if (chance.nextBoolean()) {
            tell("state 1 2 3 4");
            make("figure");
        }
        while (mayGoOn(1)) {
            layOnce();
        }
    }

    private void layOnce() {
        switch (chance.nextInt(12)) {
            case 0: make("shelf", at(3), at(3), size()); break;
            case 1: case 2: case 3: make("lay", at(3), at(6), 1 + at(2), at(1000)); break;
            case 4: make("look", at(3), at(6)); break;
            case 5: make("lift", at(3), at(6)); break;
            case 6: make("likeness", at(3), at(3)); break;
            case 7: case 8: case 9: make("hand", at(3), at(6), at(3), at(6)); break;
            case 10: make("drop", at(12)); break;
            default: make("count", 8); break;
        }
    }

    private int size() {
        return chance.nextInt(8) == 0 ? EXTREMES[chance.nextInt(EXTREMES.length)] : chance.nextInt(9);
    }

    private void moveMuch() {
        tell(goodText(100 + chance.nextInt(100)));
        make("figure");
        int texts = 0;
        while (mayGoOn(60)) {
            if (texts < 2 && chance.nextInt(120) == 0) {
                texts++;
                tell(chance.nextBoolean() ? "breaking" : "mask " + chance.nextInt(16) + " " + chance.nextInt(17));
                make("figure");
            }
            moveOnce();
        }
        seeAll();
    }

    private void moveOnce() {
        int states = Math.max(1, model.count(0));
        switch (chance.nextInt(16)) {
            case 0: make("set", at(3), chance.nextInt(3) == 0 ? at(5) : chance.nextInt(203) - 101); break;
            case 1: case 2: make("pull", at(3)); break;
            case 3: case 4: case 5: make("step", chance.nextInt(4) > 0 ? 1 + chance.nextInt(3) : chance.nextInt(103)); break;
            case 6: make("undo"); break;
            case 7: make(chance.nextBoolean() ? "keep" : "back", at(2)); break;
            case 8: make("layer", at(2), at(6)); break;
            case 9: make("share", at(2), at(states)); break;
            case 10: make("bits", at(2), at(states)); break;
            case 11: make(chance.nextBoolean() ? "limb" : "exact", at(4)); break;
            case 12: make("whole", at(2)); break;
            case 13: make("reach", at(states)); make("dead"); break;
            case 14: make("until", at(2), at(states)); break;
            default: make("pulled", at(2), at(3)); break;
        }
    }

    private void seeAll() {
        for (int i = 0; i < 4; i++) {
            make("limb", i);
            make("exact", i);
        }
        for (int i = 0; i < 12; i++) {
            make("layer", i / 6, i % 6);
            make("bits", i / 6, i % 6);
        }
        for (int i = 0; i < 11; i++) {
            make("count", i);
        }
    }

    // ---- texts

    private String goodText(int most) {
        StringBuilder text = new StringBuilder();
        int states = model.count(0);
        int ways = model.count(1);
        while (true) {
            String clause;
            int kind = chance.nextInt(states < 2 ? 2 : 12);
            if (kind < 2 && states < 6) {
                clause = "state " + signed() + " " + signed() + " " + signed() + " " + signed();
                states++;
            } else if (kind == 2 && chance.nextInt(4) == 0) {
                clause = "figure";
                states = 0;
                ways = 0;
            } else if (kind == 3) {
                clause = "mask " + chance.nextInt(16) + " " + chance.nextInt(17);
            } else if (kind < 7 && ways > 0) {
                clause = "breaking";
            } else if (ways < 12 && states > 0) {
                clause = wayClause(states);
                ways++;
            } else {
                clause = "mask 7 7";
            }
            if (text.length() + clause.length() + 1 > most) {
                return text.length() == 0 ? "mask 5 9" : text.toString();
            }
            text.append(text.length() == 0 ? "" : chance.nextInt(6) == 0 ? " ; " : ";").append(clause);
        }
    }

    private String wayClause(int states) {
        String ahead = "way " + (chance.nextInt(3) == 0 ? 9 : chance.nextInt(states)) + " " + chance.nextInt(states) + " "
            + FRAMES[chance.nextInt(6)] + " ";
        switch (chance.nextInt(5)) {
            case 0: return ahead + "after " + (chance.nextInt(4) == 0 ? chance.nextInt(100) : chance.nextInt(4));
            case 1: return ahead + "over " + chance.nextInt(3) + " " + signed();
            case 2: return ahead + "under " + chance.nextInt(3) + " " + signed();
            default: return ahead + "trigger " + chance.nextInt(3);
        }
    }

    private String signed() {
        return (chance.nextInt(3) == 0 ? chance.nextBoolean() ? "- " : "-" : "") + chance.nextInt(chance.nextBoolean() ? 10 : 100);
    }

    private String spoiled(String text) {
        int place = chance.nextInt(text.length() + 1);
        String ahead = text.substring(0, place);
        String behind = text.substring(place);
        String[] put = {"0", "9", "7", "a", " ", ";", "-", "A", ".", "figure;", ";state 1 1 1 1", " 17", (char) 0 + "", (char) 255 + ""};
        switch (chance.nextInt(4)) {
            case 0: return ahead;
            case 1: return ahead + (behind.isEmpty() ? "" : behind.substring(1));
            default: return ahead + put[chance.nextInt(put.length)] + behind;
        }
    }

    // ---- calls

    private boolean mayGoOn(int reserve) {
        return !differs && calls + reserve < CALLS;
    }

    /** A number below a bound, now and then one that is not. */
    private int at(int many) {
        return chance.nextInt(20) == 0 ? chance.nextBoolean() ? many : EXTREMES[chance.nextInt(EXTREMES.length)] : chance.nextInt(many);
    }

    private void tell(String text) {
        for (int i = 0; i < text.length(); i++) {
            make("write", text.charAt(i));
        }
    }

    private void make(String name, int... given) {
        if (differs || calls == CALLS) {
            return;
        }
        calls++;
        long got = answer(program, PROGRAM, name, given);
        long want = answer(model, MODEL, name, given);
        String call = name + Arrays.toString(given);
        made.add(call + " = " + want);
        Check.due(call, got, want);
        if (got != want) {
            differs = true;
            System.out.println("the run was: " + made);
        }
    }

    private static Map<String, Method> methodsOf(Class<?> face) {
        Map<String, Method> methods = new HashMap<>();
        for (Method method : face.getDeclaredMethods()) {
            boolean isPrivate = Modifier.isPrivate(method.getModifiers()) || method.isSynthetic();
            if (!isPrivate) {
                methods.put(method.getName(), method);
            }
        }
        return methods;
    }

    private static long answer(Object object, Map<String, Method> methods, String name, int[] given) {
        Object[] boxed = new Object[given.length];
        for (int i = 0; i < given.length; i++) {
            boxed[i] = given[i];
        }
        try {
            return ((Number) methods.get(name).invoke(object, boxed)).longValue();
        } catch (ReflectiveOperationException e) {
            throw new IllegalStateException(name, e);
        }
    }
}
