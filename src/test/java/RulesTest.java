import java.io.IOException;
import java.nio.file.Files;
import java.nio.file.Path;
import java.util.ArrayList;
import java.util.List;
import java.util.Set;
import java.util.regex.Matcher;
import java.util.regex.Pattern;

/**
 * The rules of LANGUAGE.md that the text of the program shows; FaceTest looks at those that its class shows. Where
 * the program needs less than a rule allows (exceptions, texts, lists, doubles), the less is asked for.
 */
public final class RulesTest {
    private static final Check CHECK = new Check();
    private static final Path PROGRAM = Path.of("src", "main", "java", "SlottedMesh.java");
    private static final int MOST_LINES = 60;
    private static final Set<String> LIBRARY = Set.of(
            "Math.max", "Math.min", "Math.abs", "Math.floorMod", "Math.floorDiv", "Arrays.fill");
    private static final Set<String> WORDS_LEFT_OUT = Set.of("package", "throw", "throws", "try", "catch", "finally",
            "synchronized", "assert", "volatile", "native", "protected", "System", "Thread", "Random", "Object",
            "double", "float", "equals", "hashCode", "toString", "instanceof", "yield", "var");
    private static final Pattern HEAD = Pattern.compile("^( {4}| {8})\\S.*\\) \\{$");

    public static void main(String[] args) throws IOException {
        String bare = withoutComments(Files.readString(PROGRAM));
        imports(bare);
        words(bare);
        library(bare);
        methods(bare.lines().toList());
        CHECK.end("RulesTest");
    }

    private static String withoutComments(String text) {
        return text.replaceAll("(?s)/\\*.*?\\*/", "").replaceAll("//[^\n]*", "");
    }

    private static List<String> all(String text, String pattern) {
        List<String> found = new ArrayList<>();
        Matcher matcher = Pattern.compile(pattern).matcher(text);
        while (matcher.find()) {
            found.add(matcher.group());
        }
        return found;
    }

    private static void imports(String bare) {
        List<String> found = all(bare, "import [^;]*;");
        CHECK.due("imports " + found, found.equals(List.of("import java.util.Arrays;")), true);
    }

    private static void words(String bare) {
        CHECK.due("the text is there", bare.length() > 1000, true);
        for (String word : all(bare, "[A-Za-z_]+")) {
            if (WORDS_LEFT_OUT.contains(word)) {
                CHECK.due("the word " + word, true, false);
            }
        }
        for (String sign : new String[] {"->", "::", "@", "\"", "static {"}) {
            CHECK.due("the sign " + sign, bare.contains(sign), false);
        }
    }

    private static void library(String bare) {
        for (String call : all(bare, "\\b(Math|Arrays|Integer|Long|List|ArrayList)\\.[a-zA-Z]+")) {
            CHECK.due("rule 4 has " + call, LIBRARY.contains(call), true);
        }
    }

    /** Looks at each method and constructor, from its head to the brace that stands below it. */
    private static void methods(List<String> lines) {
        int heads = 0;
        for (int k = 0; k < lines.size(); k++) {
            Matcher head = HEAD.matcher(lines.get(k));
            if (head.matches() && !isBlock(lines.get(k))) {
                heads++;
                method(lines.subList(k, endOf(lines, k, head.group(1)) + 1));
            }
        }
        CHECK.due("methods were found", heads > 40, true);
    }

    private static boolean isBlock(String line) {
        return line.trim().matches("(if|for|while|switch|\\}).*");
    }

    private static int endOf(List<String> lines, int head, String indent) {
        int at = head;
        while (at < lines.size() - 1 && !lines.get(at).equals(indent + "}")) {
            at++;
        }
        return at;
    }

    /** All calls of a run live in one room, so nothing is made behind the constructors. */
    private static void method(List<String> lines) {
        String head = lines.get(0).trim();
        CHECK.due(head + " has " + lines.size() + " lines", lines.size() <= MOST_LINES, true);
        boolean constructor = head.matches("(public )?[A-Z][A-Za-z]*\\(.*");
        boolean makes = String.join("\n", lines).matches("(?s).*\\bnew\\b.*");
        CHECK.due(head + " makes an object", makes && !constructor, false);
    }
}
