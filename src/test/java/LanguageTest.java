import java.io.IOException;
import java.nio.file.Files;
import java.nio.file.Path;
import java.util.HashSet;
import java.util.Set;
import java.util.regex.Matcher;
import java.util.regex.Pattern;

/** What of ../shared/LANGUAGE.md can be seen in the program's text: words, signs and sizes. Its first argument is the file. */
public final class LanguageTest {
    private static final String[] FORBIDDEN = {
        "\\bthrow\\b", "\\bthrows\\b", "\\btry\\b", "\\bcatch\\b", "\\bfinally\\b", "\\bsynchronized\\b", "\\bassert\\b",
        "->", "::", "\\bimport\\b", "\\bpackage\\b", "\\bprotected\\b", "\\bpublic (?!final class TrickHouse|static final int|int|TrickHouse\\()",
        "\\bstatic \\{", "Exact\\b", "\\bhashCode\\b", "\\btoString\\b", "\\bequals\\b", "System\\.(?!arraycopy)",
        "\\bMath\\.(?!min|max|abs|floorDiv|floorMod)", "\\bInteger\\.(?!bitCount|compare|min|max)", "[^\\x09\\x0a\\x20-\\x7e]"};
    private static final int MOST_LINES = 60;

    private static int passed, failed;

    public static void main(String[] args) throws IOException {
        String source = Files.readString(Path.of(args[0]));
        String code = source.replaceAll("//[^\n]*", "").replaceAll("(?s)/\\*.*?\\*/", "").replaceAll("\"[^\"]*\"", "\"\"");
        for (String forbidden : FORBIDDEN) {
            Matcher found = Pattern.compile(forbidden).matcher(code);
            due("no " + forbidden + (found.find() ? ", yet " + found.group() : ""), !found.reset().find());
        }
        names(code);
        sizes(code);
        made(code);
        System.out.println(passed + " passed, " + failed + " failed");
        if (failed != 0) System.exit(1);
    }

    private static void due(String what, boolean holds) {
        if (holds) {
            passed++;
        } else {
            failed++;
            System.out.println("LANGUAGE.md: " + what);
        }
    }

    private static final Pattern HEAD = Pattern.compile("(?m)^( +)((?:public |private |static |final )*)(?!return|else|new|public|private)[A-Za-z\\[\\]]+ (\\w+)\\(([^)]*)\\) \\{$");

    private static void names(String code) {
        Set<String> faces = new HashSet<>();
        Matcher head = HEAD.matcher(code);
        while (head.find()) if (head.group(2).contains("public")) faces.add(head.group(3));
        due("27 promises have 26 public methods, not " + faces.size(), faces.size() == 26);
        head.reset();
        while (head.find()) {
            boolean isPublic = head.group(2).contains("public");
            due("rule 1, " + head.group(3) + " bears a public name", isPublic || !faces.contains(head.group(3)));
            due("rule 1, " + head.group(3) + " is not private", isPublic || head.group(1).length() > 4 || head.group(2).contains("private"));
            due("rule 11, parameters of " + head.group(3), head.group(4).split(",").length <= 7);
        }
    }

    private static void sizes(String code) {
        Matcher head = HEAD.matcher(code);
        while (head.find()) {
            int end = code.indexOf("\n" + head.group(1) + "}", head.end());
            long lines = code.substring(head.start(), end).lines().count();
            due("rule 11, lines of " + head.group(3), lines <= MOST_LINES);
        }
        Matcher classes = Pattern.compile("\\b(class|record|enum|interface) [A-Z]").matcher(code);
        int count = 0;
        while (classes.find()) count++;
        due("rule 11, classes", count <= 12);
    }

    // All calls of a run live in one room, so that what is made is made with the object: in its fields and its constructor.
    private static void made(String code) {
        for (String line : code.split("\n")) {
            if (!line.matches(".*\\bnew\\b.*")) continue;
            boolean withTheObject = line.matches(" +(private )?final [\\w\\[\\]]+ \\w+ = new .*;") || line.equals("            sheets[i] = new Sheet();");
            due("rule 12, a call makes an object: " + line.trim(), withTheObject);
        }
    }
}
