import java.io.IOException;
import java.nio.file.Files;
import java.nio.file.Path;
import java.util.regex.Matcher;
import java.util.regex.Pattern;

/**
 * The document's sentences, each held by a test of its own. What is quoted must stand in the document, so that a
 * sentence that changes there shows here; and at the end no sentence that names an edge may be left without a test.
 */
final class Sentences {
    /** The section of all that stands ahead of promise 1, but for the face. */
    static final int TERMS = 0;
    private static final int PROMISES = 54;
    private static final Pattern EDGE = Pattern.compile("at most|at least|at first|none|NONE|without|nothing"
            + "|rounded (?:down|up)|of several|goes round|\\d+ to \\d+|- 2 to 2|too many|or 0|empty|both too|stays?\\b"
            + "|modulo|remembered|used up|is thrown|[A-Z]\\w+Exception");

    private final String[] sections = new String[PROMISES + 1];
    private final boolean[][] told = new boolean[PROMISES + 1][];

    Sentences() {
        String text;
        try {
            text = Files.readString(Path.of("../shared/DOC.md")).replaceAll("\\s+", " ");
        } catch (IOException e) {
            throw new IllegalStateException(e);
        }
        sections[TERMS] = between(text, "## What it is", "## The public face") + between(text, "## Terms", "## Promise 1:");
        for (int i = 1; i <= PROMISES; i++) {
            String next = i < PROMISES ? "## Promise " + (i + 1) + ":" : "## Not promised";
            sections[i] = between(text, "## Promise " + i + ":", next);
        }
        for (int i = 0; i <= PROMISES; i++) {
            told[i] = new boolean[sections[i].length()];
        }
        passSignatures();
    }

    private static String between(String text, String begin, String end) {
        return text.substring(text.indexOf(begin) + begin.length(), text.indexOf(end));
    }

    /** A promise's title and the signature in its `` are held by FaceTest. */
    private void passSignatures() {
        for (int i = 1; i <= PROMISES; i++) {
            int end = sections[i].lastIndexOf('`') + 2;
            for (int j = 0; j < end; j++) {
                told[i][j] = true;
            }
        }
    }

    void edge(int section, String quote, Runnable test) {
        Check.about((section == TERMS ? "Terms: " : "Promise " + section + ": ") + quote);
        int at = sections[section].indexOf(quote);
        Check.due("the sentence stands in the document", at >= 0, true);
        for (int i = 0; i < quote.length() && at >= 0; i++) {
            told[section][at + i] = true;
        }
        int before = Check.done();
        try {
            test.run();
        } catch (RuntimeException e) {
            Check.due("a call threw " + e, true, false);
        }
        Check.due("something was tested", Check.done() > before, true);
        Check.about("");
    }

    /** Of the terms every edge was quoted, and of the promises every word. */
    void checkAllTold() {
        Matcher edges = EDGE.matcher(sections[TERMS]);
        while (edges.find()) {
            Check.due("Terms: no test of '" + around(TERMS, edges.start()) + "'", told[TERMS][edges.start()], true);
        }
        for (int i = 1; i <= PROMISES; i++) {
            for (int j = 0; j < told[i].length; j++) {
                boolean silent = " .;,".indexOf(sections[i].charAt(j)) >= 0;
                if (!silent && !told[i][j]) {
                    Check.due("Promise " + i + ": no test of '" + around(i, j) + "'", false, true);
                    break;
                }
            }
        }
    }

    private String around(int section, int at) {
        String text = sections[section];
        return text.substring(Math.max(0, at - 30), Math.min(text.length(), at + 40));
    }
}
