import java.io.IOException;
import java.nio.file.Files;
import java.nio.file.Path;
import java.util.ArrayList;
import java.util.Arrays;
import java.util.HashMap;
import java.util.List;
import java.util.Map;
import java.util.regex.Matcher;
import java.util.regex.Pattern;
import java.util.stream.Stream;

/**
 * What the tests say of the document by of(part, sentence) stands there, word by word, in that part; and of the document's
 * terms and promises no word is left that no such test holds. Arguments: the program's file, the document's.
 */
public final class SentencesTest {
    private static final Path TESTS = Path.of("src/test/java");
    private static final Pattern NAMED = Pattern.compile("(\\w+) = \"([^\"]*)\"");
    private static final Pattern HELD = Pattern.compile("\\bof\\((\\w+|\"[^\"]*\"), ((?:\"[^\"]*\"\\s*(?:\\+\\s*)?)+)\\);");
    private static final Pattern TEXT = Pattern.compile("\"([^\"]*)\"");
    // What no test can hold: marks, the lines that only part the face, a promise's own head.
    private static final String NO_SENTENCE = "==== \\d|```(text)?|Ahead of the calls [^:]*: ---- [^.]*\\.|^`[^`]*`: |[\\s.,;:()\\x00]";

    private static int passed, failed;

    public static void main(String[] args) throws IOException {
        Map<String, String> parts = parts(Files.readString(Path.of(args[1])));
        Map<String, List<String>> held = new HashMap<>();
        try (Stream<Path> files = Files.list(TESTS)) {
            for (Path file : (Iterable<Path>) files.sorted()::iterator) {
                if (file.toString().endsWith("Test.java")) gather(Files.readString(file), held);
            }
        }
        held.forEach((part, sentences) -> stand(parts, part, sentences));
        parts.forEach((part, text) -> {
            if (part.equals("Terms") || part.startsWith("Promise ")) isHeld(part, text, held.getOrDefault(part, List.of()));
        });
        System.out.println(passed + " passed, " + failed + " failed");
        if (failed != 0) System.exit(1);
    }

    private static void due(String what, boolean holds) {
        if (holds) {
            passed++;
        } else {
            failed++;
            System.out.println(what);
        }
    }

    private static Map<String, String> parts(String document) {
        Map<String, String> parts = new HashMap<>();
        for (String part : document.split("\n## ")) {
            int end = part.indexOf('\n');
            if (end > 0) parts.put(part.substring(0, end).trim(), part.substring(end).replaceAll("\\s+", " ").trim());
        }
        return parts;
    }

    private static void gather(String source, Map<String, List<String>> held) {
        Map<String, String> named = new HashMap<>();
        Matcher name = NAMED.matcher(source);
        while (name.find()) named.put(name.group(1), name.group(2));
        Matcher of = HELD.matcher(source);
        while (of.find()) {
            String part = of.group(1).startsWith("\"") ? of.group(1).replace("\"", "") : named.get(of.group(1));
            StringBuilder sentence = new StringBuilder();
            Matcher text = TEXT.matcher(of.group(2));
            while (text.find()) sentence.append(text.group(1));
            held.computeIfAbsent(part, p -> new ArrayList<>()).add(sentence.toString());
        }
    }

    private static void stand(Map<String, String> parts, String part, List<String> sentences) {
        due("the document has no part \"" + part + "\"", parts.containsKey(part));
        for (String sentence : sentences) {
            due(part + ": the document does not say \"" + sentence + "\"", parts.getOrDefault(part, "").contains(sentence));
        }
    }

    private static void isHeld(String part, String text, List<String> sentences) {
        char[] rest = text.toCharArray();
        for (String sentence : sentences) {
            int at = text.indexOf(sentence);
            if (at >= 0) Arrays.fill(rest, at, at + sentence.length(), (char) 0);
        }
        String left = new String(rest).replaceAll("\\x00+", "\0").replaceAll(NO_SENTENCE, " ").replaceAll(" +", " ").trim();
        due(part + ": no test holds \"" + left + "\"", left.isEmpty());
    }
}
