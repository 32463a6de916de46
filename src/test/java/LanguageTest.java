import java.nio.file.Files;
import java.nio.file.Path;
import java.util.List;
import java.util.regex.Pattern;

/** What of ../shared/LANGUAGE.md can be seen in the text of the class. It runs where src lies. */
public final class LanguageTest {
    /** The rule's number, and what it forbids. */
    private static final String[][] FORBIDDEN = {{"1", "\\bprotected\\b"}, {"2", "::"},
        {"2", "^(?!\\s*(case|default)\\b).*->"}, {"4", "Exact\\("}, {"4", "\\bSystem\\.(?!arraycopy\\b)"}, {"5", "\\bstatic \\{"},
        {"6", "\\bfinally\\b"}, {"6", "\\bassert\\b"}, {"6", "\\bsynchronized\\b"}, {"6", "getMessage"},
        {"6", "\\bcatch \\((Exception|Throwable|Error)\\b"},
        {"6", "\\b(ArrayIndexOutOfBounds|NullPointer|ClassCast|NegativeArraySize|ArrayStore)Exception\\b"},
        {"13", "\\bThread\\b"}, {"13", "\\brandom\\(|\\bRandom\\b|\\bcurrentTimeMillis\\b|\\bnanoTime\\b"}};
    private static final Pattern THROW = Pattern.compile("throw new (IllegalState|IllegalArgument|IndexOutOfBounds|Arithmetic"
        + "|UnsupportedOperation|NoSuchElement|Runtime)Exception\\((\"[^\"]*\")?\\);");
    private static final Pattern IMPORT = Pattern.compile(
        "import java\\.util\\.(ArrayList|List|Iterator|Arrays|NoSuchElementException);");
    /** The rule says some sixty. */
    private static final int MOST_LINES = 70;

    public static void main(String[] args) throws java.io.IOException {
        List<String> lines = Files.readAllLines(Path.of("src/main/java/HartBoard.java"));
        int begin = -1;
        for (int k = 0; k < lines.size(); k++) {
            String line = lines.get(k);
            String place = "line " + (k + 1) + " of the class: ";
            String start = line.trim();
            String code = start.startsWith("/*") || start.startsWith("*") || start.startsWith("//") ? "" : line;
            for (String[] rule : FORBIDDEN) {
                Check.due(place + "rule " + rule[0] + ", no " + rule[1], !Pattern.compile(rule[1]).matcher(code).find());
            }
            Check.due(place + "no package", !code.startsWith("package"));
            Check.due(place + "rule 4, imports", !code.startsWith("import") || IMPORT.matcher(code).matches());
            Check.due(place + "rule 6, what is thrown", !code.contains("throw new") || THROW.matcher(code).find());
            if (Pattern.matches(" {4,8}[a-z].*\\) .*\\{|.* {4,8}[a-z].*\\) \\{", line)) {
                begin = k;
            }
            if (begin >= 0 && (line.equals("        }") || line.equals("    }"))) {
                Check.due("the method at line " + (begin + 1) + " is short", k - begin <= MOST_LINES);
                begin = -1;
            }
        }
        Check.end();
    }
}
