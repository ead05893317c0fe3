import java.io.IOException;
import java.lang.reflect.Field;
import java.lang.reflect.Method;
import java.lang.reflect.Modifier;
import java.nio.charset.StandardCharsets;
import java.nio.file.Files;
import java.nio.file.Path;
import java.util.Arrays;
import java.util.HashSet;
import java.util.List;
import java.util.Set;
import java.util.TreeSet;
import java.util.regex.Matcher;
import java.util.regex.Pattern;

/** The face is the document's, no more and no less, and the source keeps to what LANGUAGE.md leaves. */
public final class FaceTests {
    private static final List<String> METHODS = List.of("write(int)", "erase()", "fault()", "figure()", "value(int, int)",
        "way(int, int)", "set(int, int)", "pull(int)", "step(int)", "undo()", "keep(int)", "back(int)", "layer(int, int)",
        "share(int, int)", "bits(int, int)", "limb(int)", "exact(int)", "whole(int)", "reach(int)", "dead()", "until(int, int)",
        "pulled(int, int)", "shelf(int, int, int)", "lay(int, int, int, int)", "look(int, int)", "lift(int, int)",
        "likeness(int, int)", "hand(int, int, int, int)", "drop(int)", "count(int)");
    private static final String[] CONSTANTS = {"NONE", "UNKNOWN", "OUTSIDE", "NOT", "FULL", "NULL", "SIZE", "INDEX", "STORE", "EMPTY"};
    private static final int[] WORTH = {-1, -2, -3, -4, -5, -11, -12, -13, -14, -15};
    /** What no line of the program needs, and LANGUAGE.md rules out or the program must not lean on. */
    private static final String[] RULED_OUT = {"\\bcatch\\b", "\\btry\\b", "\\bfinally\\b", "->", "::", "\\bFloat\\.", "\\bDouble\\.",
        "\\bassert\\b", "\\bsynchronized\\b", "\\bpackage\\b", "\\bString\\.format", "\\bSystem\\.(?!arraycopy)", "\\bvar\\b",
        "Exact\\(", "\\bstatic \\{", "\\bMath\\.(?!min|max|abs)", "\\bimport (?!java\\.util\\.Arrays;)", "\\bstrictfp\\b", "\\bnull\\b"};

    public static void main(String[] args) throws IOException, IllegalAccessException {
        theClass();
        theMethods();
        theConstants();
        theClassesInside();
        theSource();
        Check.finish();
    }

    private static void theClass() {
        int modifiers = MotionStates.class.getModifiers();
        Check.holds("the class is public and final", Modifier.isPublic(modifiers) && Modifier.isFinal(modifiers));
        Check.due("constructors", MotionStates.class.getDeclaredConstructors().length, 1);
        Check.due("public constructors", MotionStates.class.getConstructors().length, 1);
        Check.due("its parameters", MotionStates.class.getConstructors()[0].getParameterCount(), 0);
    }

    private static String shown(Method method) {
        String types = Arrays.toString(Arrays.stream(method.getParameterTypes()).map(Class::getName).toArray());
        return method.getName() + "(" + types.substring(1, types.length() - 1) + ")";
    }

    private static void theMethods() {
        Set<String> found = new TreeSet<>();
        Set<String> names = new HashSet<>();
        METHODS.forEach(method -> names.add(method.substring(0, method.indexOf('('))));
        for (Method method : MotionStates.class.getDeclaredMethods()) {
            int modifiers = method.getModifiers();
            if (Modifier.isPrivate(modifiers)) {
                Check.holds("a private method bears a public one's name: " + method.getName(), !names.contains(method.getName()));
                continue;
            }
            Check.holds(method + " is public and of an object", Modifier.isPublic(modifiers) && !Modifier.isStatic(modifiers));
            Check.holds(method + " answers as told", method.getReturnType() == (method.getName().equals("exact") ? long.class : int.class));
            found.add(shown(method));
        }
        Check.holds("the methods are " + found, found.equals(new TreeSet<>(METHODS)));
    }

    private static void theConstants() throws IllegalAccessException {
        int others = 0;
        for (Field field : MotionStates.class.getDeclaredFields()) {
            int place = Arrays.asList(CONSTANTS).indexOf(field.getName());
            if (place < 0) {
                others += Modifier.isPrivate(field.getModifiers()) ? 0 : 1;
                Check.holds(field + " static and not final",
                    !Modifier.isStatic(field.getModifiers()) || Modifier.isFinal(field.getModifiers()));
                continue;
            }
            Check.holds(field + " is public static final int", field.getType() == int.class
                && field.getModifiers() == (Modifier.PUBLIC | Modifier.STATIC | Modifier.FINAL));
            Check.due(field.getName(), field.getInt(null), WORTH[place]);
        }
        Check.due("other fields that are not private", others, 0);
        Check.due("public fields", MotionStates.class.getFields().length, CONSTANTS.length);
    }

    private static void theClassesInside() {
        Class<?>[] inside = MotionStates.class.getDeclaredClasses();
        Check.holds("classes: " + inside.length, inside.length < 12);
        for (Class<?> one : inside) {
            int modifiers = one.getModifiers();
            Check.holds(one + " is static and not open", Modifier.isStatic(modifiers)
                && !Modifier.isPublic(modifiers) && !Modifier.isProtected(modifiers));
            Check.holds(one + " has few fields", one.getDeclaredFields().length <= 20);
        }
    }

    private static void theSource() throws IOException {
        String source = Files.readString(Path.of("src/main/java/MotionStates.java"), StandardCharsets.US_ASCII);
        String code = source.replaceAll("(?s)/\\*.*?\\*/", "").replaceAll("//[^\n]*", "");
        for (String word : RULED_OUT) {
            Matcher matcher = Pattern.compile(word).matcher(code);
            Check.holds("the source has " + word, !matcher.find());
        }
        Matcher method = Pattern.compile("(?m)^( {4}| {8})(?:public |private |static )*[\\w\\[\\]]+ ?\\w*\\([^)]*\\) \\{\n(.*?)^\\1\\}",
            Pattern.DOTALL | Pattern.MULTILINE).matcher(source);
        int methods = 0;
        while (method.find()) {
            methods++;
            Check.holds("a method is long: " + method.group().lines().findFirst().orElse(""), method.group().split("\n").length <= 60);
        }
        Check.holds("methods were found: " + methods, methods >= METHODS.size());
    }
}
