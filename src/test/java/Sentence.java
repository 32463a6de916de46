import java.io.IOException;
import java.io.UncheckedIOException;
import java.nio.file.Files;
import java.nio.file.Path;
import java.util.Arrays;

/**
 * The sentences of ../shared/DOC.md, and which of them a test is for. A test says its sentence first; the sentence must
 * stand in the document, word by word, in the part that the test names.
 */
final class Sentence {
    /** How the parts of 'Terms' begin, in their order. */
    private static final String[] TERMS = {"WORDS.", "PRIVILEGE is 0 (user)", "PHYSICAL MEMORY (", "CONTROL REGISTERS (",
        "A STEP.", "INSTRUCTIONS of 32 bits", "INSTRUCTIONS of 16 bits", "IMAGES.", "Of several exceptions", "## Promise 1:"};
    private static final int PROMISES = 17;
    private static final String USE = "## What it is";
    private static final String END = "## Not promised";
    private static final Path DOCUMENT = Path.of("../shared/DOC.md");

    /** Empty where the document is not at hand: the answers are looked at even so, the words are not. */
    private static final String TEXT = text();
    private static final boolean[] SAID = new boolean[TEXT.length()];
    private static int madeBefore = 0;
    private static String latest = "";

    private Sentence() {
    }

    private static String text() {
        if (!Files.isReadable(DOCUMENT)) {
            System.out.println(DOCUMENT + " is not here: no sentence is looked up");
            return "";
        }
        try {
            return Files.readString(DOCUMENT).replace("```text", "").replace("```", "").replaceAll("\\s+", " ");
        } catch (IOException e) {
            throw new UncheckedIOException(e);
        }
    }

    /** A sentence that stands under the heading of a promise. */
    static void of(int promise, String words) {
        begin("Promise " + promise + ": '" + words + "'", words, beginOfPromise(promise), endOfPromise(promise));
    }

    /** A sentence that stands under 'Terms', for a promise that rests on it. */
    static void of(int promise, String term, String words) {
        int from = 0;
        int to = 0;
        for (int k = 0; k + 1 < TERMS.length && to == 0; k++) {
            from = TEXT.indexOf(TERMS[k], from);
            if (TERMS[k].startsWith(term)) {
                to = TEXT.indexOf(TERMS[k + 1], from + 1);
            }
        }
        begin("Promise " + promise + ", Terms, " + term + ": '" + words + "'", words, from, to);
    }

    /** A sentence that stands before all promises, under 'What it is'. */
    static void ofUse(String words) {
        begin("What it is: '" + words + "'", words, TEXT.indexOf(USE), TEXT.indexOf("## The public face"));
    }

    /** A sentence that stands behind all promises, under 'Not promised'. */
    static void ofEnd(String words) {
        begin("Not promised: '" + words + "'", words, TEXT.indexOf(END), TEXT.length());
    }

    private static int beginOfPromise(int promise) {
        return TEXT.indexOf("## Promise " + promise + ":");
    }

    private static int endOfPromise(int promise) {
        return promise == PROMISES ? TEXT.indexOf(END) : beginOfPromise(promise + 1);
    }

    private static void begin(String where, String words, int from, int to) {
        endOfLatest();
        Check.about(where);
        if (!TEXT.isEmpty()) {
            lookUp(words, from, to);
        }
        latest = where;
        madeBefore = Check.made();
    }

    private static void lookUp(String words, int from, int to) {
        int at = from < 0 ? -1 : TEXT.indexOf(words, from);
        boolean stands = at >= 0 && at + words.length() <= to;
        Check.due("the document says so in that part", stands);
        if (stands) {
            int again = TEXT.indexOf(words, at + 1);
            Check.due("it is said once there", again < 0 || again >= to);
            Arrays.fill(SAID, at, at + words.length(), true);
        }
    }

    private static void endOfLatest() {
        if (!latest.isEmpty()) {
            Check.about(latest);
            Check.due("a test of its own was made", Check.made() > madeBefore);
        }
    }

    /** At the end: what was no test's sentence, from the first line to the last, has no words, but for those given. */
    static void dueAllBut(String... words) {
        endOfLatest();
        Check.about("");
        if (TEXT.isEmpty()) {
            return;
        }
        for (int promise = 1; promise <= PROMISES; promise++) {
            dueSaid(TEXT.indexOf("`:", beginOfPromise(promise)) + 2, endOfPromise(promise), words);
        }
        dueSaid(TEXT.indexOf("## Terms") + "## Terms".length(), beginOfPromise(1), words);
        dueSaid(TEXT.indexOf(USE) + USE.length(), TEXT.indexOf("## The public face"), words);
        dueSaid(TEXT.indexOf(END) + END.length(), TEXT.length(), words);
    }

    private static void dueSaid(int from, int to, String[] words) {
        StringBuilder rest = new StringBuilder();
        for (int k = from; k <= to; k++) {
            if (k < to && !SAID[k]) {
                rest.append(TEXT.charAt(k));
            } else {
                String left = rest.toString().replaceAll("^[^A-Za-z0-9]+|[^A-Za-z0-9]+$", "");
                Check.due("a test is for '" + left + "'", left.isEmpty() || Arrays.asList(words).contains(left));
                rest.setLength(0);
            }
        }
    }
}
