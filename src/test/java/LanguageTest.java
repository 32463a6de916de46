import java.nio.file.Files;
import java.nio.file.Path;
import java.util.List;
import java.util.regex.Pattern;

/** What of ../shared/LANGUAGE.md can be seen in the text of the class. It runs where src lies. */
public final class LanguageTest {
    private static final String[] FORBIDDEN = {"->", "::", "\\btry\\b", "\\bcatch\\b", "\\bfinally\\b", "\\bassert\\b",
        "\\bsynchronized\\b", "Exact\\(", "\\bpackage\\b", "\\bstatic \\{", "\\bSystem\\b", "\\bMath\\.random", "\\bThread\\b",
        "\\bvar\\b", "\\.equals\\(", "\\bprotected\\b", "\\bnative\\b", "\\bvolatile\\b", "\\bArrayList\\b"};
    private static final Pattern THROW = Pattern.compile(
        "throw new (IllegalArgumentException|IllegalStateException|NoSuchElementException)\\(\"[^\"]*\"\\);");

    public static void main(String[] args) throws java.io.IOException {
        List<String> lines = Files.readAllLines(Path.of("src/main/java/HartBoard.java"));
        int begin = -1;
        for (int k = 0; k < lines.size(); k++) {
            String line = lines.get(k);
            String code = line.trim().startsWith("/**") || line.trim().startsWith("*") || line.trim().startsWith("//") ? "" : line;
            for (String word : FORBIDDEN) {
                Check.due("line " + (k + 1) + " has no " + word, !Pattern.compile(word).matcher(code).find());
            }
            if (code.startsWith("import")) {
                Check.due("line " + (k + 1) + " imports what it may", code.equals("import java.util.NoSuchElementException;"));
            }
            if (code.contains("throw new")) {
                Check.due("line " + (k + 1) + " throws what it may", THROW.matcher(code).find());
            }
            Check.due("line " + (k + 1) + " is not too long", line.length() <= 130);
            if (Pattern.matches(" {4,8}[a-z].*\\) .*\\{|.* {4,8}[a-z].*\\) \\{", line)) {
                begin = k;
            }
            if (begin >= 0 && (line.equals("        }") || line.equals("    }"))) {
                Check.due("the method at line " + (begin + 1) + " is short", k - begin <= 60);
                begin = -1;
            }
        }
        Check.end();
    }
}
