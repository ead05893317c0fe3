import java.io.IOException;
import java.lang.reflect.Method;
import java.lang.reflect.Modifier;
import java.net.URL;
import java.net.URLClassLoader;
import java.nio.file.Files;
import java.nio.file.Path;
import java.util.ArrayList;
import java.util.HashMap;
import java.util.List;
import java.util.Map;
import java.util.Set;
import java.util.TreeSet;
import java.util.regex.Matcher;
import java.util.regex.Pattern;
import javax.tools.ToolProvider;

/** README.md holds: its examples are compiled and answer what they say, its tables are the face and the document's. */
public final class ReadmeTests {
    private static final Pattern ANSWERED = Pattern.compile("(?m)^(x\\.\\w+\\([^)]*\\));\\s*// (-?\\d+): .*$");
    private static final Pattern CALL = Pattern.compile("(?m)^\\| `(\\w+)\\(([^)]*)\\)` \\|(.*)\\|([^|]*)\\|$");
    private static final Pattern CONSTANT = Pattern.compile("(?m)^\\| `([A-Z]+)` \\| (-\\d+) \\|");
    private static final Set<String> REFUSALS = Set.of("UNKNOWN", "OUTSIDE", "NOT", "FULL", "NULL", "SIZE", "INDEX", "STORE", "EMPTY");

    public static void main(String[] args) throws Exception {
        String page = Files.readString(Path.of("README.md"));
        Check.holds("the command that runs all tests", page.contains("`bash .ci/run`"));
        examples(page);
        constants(page);
        calls(page, Files.readString(Path.of("../shared/DOC.md")));
        tests(page);
        Check.finish();
    }

    private static void examples(String page) throws Exception {
        Matcher block = Pattern.compile("(?s)```java\n(.*?)```").matcher(page);
        int blocks = 0;
        while (block.find()) {
            blocks++;
            List<Long> due = new ArrayList<>();
            List<String> said = new ArrayList<>();
            Matcher line = ANSWERED.matcher(block.group(1));
            while (line.find()) {
                said.add(line.group(1));
                due.add(Long.parseLong(line.group(2)));
            }
            Check.holds("an example with answers", due.size() >= 8);
            List<Long> found = answersOf(line.replaceAll("found.add((long) $1);"));
            Check.due("answers of an example", found.size(), due.size());
            for (int i = 0; i < due.size() && i < found.size(); i++) {
                Check.due("README's " + said.get(i), found.get(i), due.get(i));
            }
        }
        Check.due("examples", blocks, 2);
    }

    private static List<Long> answersOf(String code) throws Exception {
        Path dir = Files.createTempDirectory("readme");
        Path file = dir.resolve("Example.java");
        try {
            Files.writeString(file, "public final class Example { public static void run(java.util.List<Long> found) {\n" + code + "}}");
            int failed = ToolProvider.getSystemJavaCompiler().run(null, null, null, "-proc:none", "-cp",
                System.getProperty("java.class.path"), "-d", dir.toString(), file.toString());
            Check.due("javac of an example", failed, 0);
            List<Long> found = new ArrayList<>();
            if (failed == 0) {
                try (URLClassLoader loader = new URLClassLoader(new URL[] {dir.toUri().toURL()}, ReadmeTests.class.getClassLoader())) {
                    loader.loadClass("Example").getMethod("run", List.class).invoke(null, found);
                }
            }
            return found;
        } finally {
            Files.deleteIfExists(dir.resolve("Example.class"));
            Files.deleteIfExists(file);
            Files.deleteIfExists(dir);
        }
    }

    private static void constants(String page) throws ReflectiveOperationException {
        Set<String> found = new TreeSet<>();
        Matcher row = CONSTANT.matcher(page);
        while (row.find()) {
            found.add(row.group(1));
            Check.due(row.group(1), Integer.parseInt(row.group(2)), MotionStates.class.getField(row.group(1)).getInt(null));
        }
        Check.holds("the refusals are " + found, found.equals(new TreeSet<>(REFUSALS)));
        Check.holds("NONE", page.contains("`NONE`, -1,"));
    }

    /** Each call of the face has its row, with as many parameters, and the refusals that its promise names, in order. */
    private static void calls(String page, String document) throws IOException {
        Map<String, String> rows = new HashMap<>();
        Matcher row = CALL.matcher(page);
        while (row.find()) {
            int parameters = row.group(2).isEmpty() ? 0 : row.group(2).split(", ").length;
            rows.put(row.group(1), parameters + " " + List.of(row.group(4).isBlank() ? new String[0] : row.group(4).trim().split(", ")));
            Check.holds("an answer is told of " + row.group(1), !row.group(3).isBlank());
        }
        int methods = 0;
        for (Method method : MotionStates.class.getDeclaredMethods()) {
            if (Modifier.isPublic(method.getModifiers())) {
                methods++;
                String due = method.getParameterCount() + " " + refusalsOf(document, method.getName());
                Check.holds(method.getName() + " has " + rows.get(method.getName()) + ", due is " + due, due.equals(rows.get(method.getName())));
            }
        }
        Check.due("rows of calls", rows.size(), methods);
    }

    private static List<String> refusalsOf(String document, String name) {
        Matcher promise = Pattern.compile("(?m)^## Promise \\d+: " + name + "\n\n(.*)$").matcher(document);
        List<String> refusals = new ArrayList<>();
        if (promise.find()) {
            Matcher word = Pattern.compile("\\b[A-Z]{3,}\\b").matcher(promise.group(1));
            while (word.find()) {
                if (REFUSALS.contains(word.group()) && !refusals.contains(word.group())) {
                    refusals.add(word.group());
                }
            }
        } else {
            Check.holds("the document's promise of " + name, false);
        }
        return refusals;
    }

    private static void tests(String page) throws IOException {
        try (var files = Files.list(Path.of("src/test/java"))) {
            files.map(file -> file.getFileName().toString().replace(".java", ""))
                .forEach(name -> Check.holds("README names " + name, page.contains("- `" + name + "`: ")));
        }
    }
}
