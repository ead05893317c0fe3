import java.lang.reflect.Field;
import java.lang.reflect.Method;
import java.lang.reflect.Modifier;
import java.util.Arrays;
import java.util.HashSet;
import java.util.List;
import java.util.Set;
import java.util.TreeSet;

/** The face is the document's, no more and no less; LanguageTests looks at what stands behind it. */
public final class FaceTests {
    private static final List<String> METHODS = List.of("write(int)", "erase()", "fault()", "figure()", "value(int, int)",
        "way(int, int)", "set(int, int)", "pull(int)", "step(int)", "undo()", "keep(int)", "back(int)", "layer(int, int)",
        "share(int, int)", "bits(int, int)", "limb(int)", "exact(int)", "whole(int)", "reach(int)", "dead()", "until(int, int)",
        "pulled(int, int)", "shelf(int, int, int)", "lay(int, int, int, int)", "look(int, int)", "lift(int, int)",
        "likeness(int, int)", "hand(int, int, int, int)", "drop(int)", "count(int)");
    private static final String[] CONSTANTS = {"NONE", "UNKNOWN", "OUTSIDE", "NOT", "FULL", "NULL", "SIZE", "INDEX", "STORE", "EMPTY"};
    private static final int[] WORTH = {-1, -2, -3, -4, -5, -11, -12, -13, -14, -15};

    public static void main(String[] args) throws IllegalAccessException {
        theClass();
        theMethods();
        theConstants();
        theClassesInside();
        Check.finish();
    }

    private static void theClass() {
        int modifiers = MotionStates.class.getModifiers();
        Check.holds("the class is public and final", Modifier.isPublic(modifiers) && Modifier.isFinal(modifiers));
        Check.due("constructors", MotionStates.class.getDeclaredConstructors().length, 1);
        Check.due("public constructors", MotionStates.class.getConstructors().length, 1);
        Check.due("its parameters", MotionStates.class.getConstructors()[0].getParameterCount(), 0);
    }

    private static String shown(Method method) {
        String types = Arrays.toString(Arrays.stream(method.getParameterTypes()).map(Class::getName).toArray());
        return method.getName() + "(" + types.substring(1, types.length() - 1) + ")";
    }

    private static void theMethods() {
        Set<String> found = new TreeSet<>();
        Set<String> names = new HashSet<>();
        METHODS.forEach(method -> names.add(method.substring(0, method.indexOf('('))));
        for (Method method : MotionStates.class.getDeclaredMethods()) {
            int modifiers = method.getModifiers();
            if (Modifier.isPrivate(modifiers)) {
                Check.holds("a private method bears a public one's name: " + method.getName(), !names.contains(method.getName()));
                continue;
            }
            Check.holds(method + " is public and of an object", Modifier.isPublic(modifiers) && !Modifier.isStatic(modifiers));
            Check.holds(method + " answers as told", method.getReturnType() == (method.getName().equals("exact") ? long.class : int.class));
            found.add(shown(method));
        }
        Check.holds("the methods are " + found, found.equals(new TreeSet<>(METHODS)));
    }

    private static void theConstants() throws IllegalAccessException {
        int others = 0;
        for (Field field : MotionStates.class.getDeclaredFields()) {
            int place = Arrays.asList(CONSTANTS).indexOf(field.getName());
            if (place < 0) {
                others += Modifier.isPrivate(field.getModifiers()) ? 0 : 1;
                Check.holds(field + " static and not final",
                    !Modifier.isStatic(field.getModifiers()) || Modifier.isFinal(field.getModifiers()));
                continue;
            }
            Check.holds(field + " is public static final int", field.getType() == int.class
                && field.getModifiers() == (Modifier.PUBLIC | Modifier.STATIC | Modifier.FINAL));
            Check.due(field.getName(), field.getInt(null), WORTH[place]);
        }
        Check.due("other fields that are not private", others, 0);
        Check.due("public fields", MotionStates.class.getFields().length, CONSTANTS.length);
    }

    private static void theClassesInside() {
        Class<?>[] inside = MotionStates.class.getDeclaredClasses();
        Check.holds("classes: " + inside.length, inside.length < 12);
        for (Class<?> one : inside) {
            int modifiers = one.getModifiers();
            Check.holds(one + " is static and not open", Modifier.isStatic(modifiers)
                && !Modifier.isPublic(modifiers) && !Modifier.isProtected(modifiers));
            Check.holds(one + " has few fields", one.getDeclaredFields().length <= 20);
        }
    }
}
