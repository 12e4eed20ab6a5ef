import java.io.IOException;
import java.lang.reflect.Field;
import java.lang.reflect.Method;
import java.lang.reflect.Modifier;
import java.net.URL;
import java.net.URLClassLoader;
import java.nio.file.Files;
import java.nio.file.Path;
import java.util.ArrayList;
import java.util.List;
import java.util.Set;
import java.util.TreeSet;
import java.util.regex.Matcher;
import java.util.regex.Pattern;
import java.util.stream.Stream;
import javax.tools.JavaCompiler;
import javax.tools.ToolProvider;

/** README.md agrees with the project: its example answers as it tells, its tables and its list of tests are whole. */
public final class ReadmeTest {
    private static final Path README = Path.of("README.md"), TESTS = Path.of("src/test/java");
    private static final String WORDS = "deal bid pass double redouble play claim rank rule";
    private static final Pattern JAVA = Pattern.compile("(?s)```java\n(.*?)```");
    private static final Pattern ANSWERED = Pattern.compile("((?:house\\.\\w+|say)\\(.*\\));\\s+// (-?\\d+)(?:[:,].*)?");
    private static final String MADE = "TrickHouse house = new TrickHouse();";

    private static int passed, failed;

    public static void main(String[] args) throws Exception {
        String readme = Files.readString(README);
        example(readme);
        calls(readme);
        constants(readme);
        acts(readme);
        tests(readme);
        System.out.println(passed + " passed, " + failed + " failed");
        if (failed != 0) System.exit(1);
    }

    private static void due(String what, boolean holds) {
        if (holds) {
            passed++;
        } else {
            failed++;
            System.out.println("README.md: " + what);
        }
    }

    private static List<String> all(Pattern pattern, String text) {
        List<String> found = new ArrayList<>();
        Matcher matcher = pattern.matcher(text);
        while (matcher.find()) found.add(matcher.group(1));
        return found;
    }

    // ---- the example: it is compiled as it stands, each call's answer being kept

    private static void example(String readme) throws Exception {
        List<String> blocks = all(JAVA, readme);
        due("a helper and an example, not " + blocks.size() + " blocks of Java", blocks.size() == 2);
        if (blocks.size() != 2) return;
        List<String> calls = new ArrayList<>();
        List<Integer> answers = new ArrayList<>();
        StringBuilder kept = new StringBuilder();
        for (String line : blocks.get(1).split("\n")) {
            if (line.equals(MADE)) continue;
            Matcher answered = ANSWERED.matcher(line);
            due("a call with its answer is not [" + line + "]", answered.matches());
            if (!answered.matches()) continue;
            kept.append("got[").append(calls.size()).append("] = ").append(answered.group(1)).append(";\n");
            calls.add(answered.group(1));
            answers.add(Integer.valueOf(answered.group(2)));
        }
        String source = "public final class Example {\n" + blocks.get(0) + "public static int[] run() {\n" + MADE
            + "\nint[] got = new int[" + calls.size() + "];\n" + kept + "return got;\n}\n}\n";
        int[] got = ran(source);
        for (int i = 0; i < got.length; i++) {
            due(calls.get(i) + " answers " + got[i] + ", not " + answers.get(i), got[i] == answers.get(i));
        }
    }

    private static int[] ran(String source) throws Exception {
        Path folder = Files.createTempDirectory("readme");
        Path file = Files.writeString(folder.resolve("Example.java"), source);
        JavaCompiler compiler = ToolProvider.getSystemJavaCompiler();
        String places = System.getProperty("java.class.path");
        boolean compiled = compiler.run(null, null, null, "-cp", places, "-d", folder.toString(), file.toString()) == 0;
        due("the example is no Java", compiled);
        int[] got = new int[0];
        if (compiled) {
            try (URLClassLoader loader = new URLClassLoader(new URL[] {folder.toUri().toURL()})) {
                got = (int[]) loader.loadClass("Example").getMethod("run").invoke(null);
            }
        }
        Files.deleteIfExists(folder.resolve("Example.class"));
        Files.delete(file);
        Files.delete(folder);
        return got;
    }

    // ---- the tables

    private static void calls(String readme) {
        Set<String> told = new TreeSet<>();
        Matcher row = Pattern.compile("(?m)^\\| `(\\w+)\\(([^)]*)\\)` \\|").matcher(readme);
        while (row.find()) told.add(row.group(1) + " " + (row.group(2).isEmpty() ? 0 : row.group(2).split(", ").length));
        Set<String> face = new TreeSet<>();
        for (Method method : TrickHouse.class.getDeclaredMethods()) {
            if (Modifier.isPublic(method.getModifiers())) face.add(method.getName() + " " + method.getParameterCount());
        }
        due("its calls are " + told + ", the face has " + face, told.equals(face));
    }

    private static void constants(String readme) throws IllegalAccessException {
        Set<String> told = new TreeSet<>(all(Pattern.compile("(?m)^\\| (`[A-Z]+` \\| -\\d+) \\|"), readme));
        Set<String> face = new TreeSet<>();
        for (Field field : TrickHouse.class.getDeclaredFields()) {
            if (Modifier.isPublic(field.getModifiers())) face.add("`" + field.getName() + "` | " + field.getInt(null));
        }
        due("its constants are " + told + ", the face has " + face, told.equals(face));
    }

    private static void acts(String readme) {
        Set<String> told = new TreeSet<>();
        for (String row : all(Pattern.compile("(?m)^\\| ((?:`[a-z]+(?: [A-Z]+)*`(?:, )?)+) \\|"), readme)) {
            told.addAll(all(Pattern.compile("`([a-z]+)"), row));
        }
        due("its ACTS are " + told, told.equals(new TreeSet<>(List.of(WORDS.split(" ")))));
    }

    private static void tests(String readme) throws IOException {
        Set<String> told = new TreeSet<>(all(Pattern.compile("`(\\w+Test)`"), readme));
        Set<String> there = new TreeSet<>();
        try (Stream<Path> files = Files.list(TESTS)) {
            for (Path file : (Iterable<Path>) files::iterator) {
                String name = file.getFileName().toString().replace(".java", "");
                if (name.endsWith("Test")) there.add(name);
            }
        }
        due("its tests are " + told + ", there are " + there, told.equals(there));
    }
}
