import java.io.IOException;
import java.nio.file.Files;
import java.nio.file.Path;
import java.util.ArrayList;
import java.util.List;

/**
 * Tests that go through the document passage by passage: each says the passage, then makes the checks that fail if it is
 * broken. end() holds the passages against the document itself, so that none is left out and none is tested by no check.
 */
final class Doc {
    private static final Path DOCUMENT = Path.of(System.getProperty("project.root", "."), "../shared/DOC.md");
    private static final List<String> PASSAGES = new ArrayList<>();
    private static int madeAhead = 0;

    private Doc() { }

    static void says(String passage) {
        endPassage();
        PASSAGES.add(passage);
        Check.about(passage);
    }

    private static void endPassage() {
        if (!PASSAGES.isEmpty()) {
            Check.holds("a check of its own", Check.made() > madeAhead);
        }
        madeAhead = Check.made();
    }

    /** Ends a test that has every passage of the document between two lines of it, in their order. */
    static void end(String name, String from, String to) throws IOException {
        endPassage();
        Check.about("");
        if (!Files.exists(DOCUMENT)) {
            System.out.println("no document at " + DOCUMENT + ": the passages are not held against it");
            Check.end(name);
            return;
        }
        String text = between(from, to);
        int at = 0;
        for (String passage : PASSAGES) {
            boolean isNext = text.startsWith(passage, at);
            String rest = text.substring(at, Math.min(text.length(), at + 80));
            Check.holds("the document goes on with \"" + rest + "\", the test with \"" + passage + "\"", isNext);
            if (!isNext) {
                break;
            }
            at = Math.min(text.length(), at + passage.length() + 1);
        }
        Check.holds("no test for \"" + text.substring(at) + "\"", at == text.length());
        Check.end(name);
    }

    /** The text without headings and heads of methods, with one blank for all blanks and ends of lines. */
    private static String between(String from, String to) throws IOException {
        String all = Files.readString(DOCUMENT);
        int start = all.indexOf(from);
        int end = start < 0 ? -1 : all.indexOf(to, start);
        if (end < 0) {
            return "(not in the document: " + from + " .. " + to + ")";
        }
        StringBuilder text = new StringBuilder();
        for (String line : all.substring(start, end).split("\n")) {
            boolean isHeading = line.startsWith("## ") || line.startsWith("```") || line.startsWith("====");
            text.append(isHeading ? "" : line.replaceFirst("^`[^`]*`: ", "")).append(' ');
        }
        return text.toString().replaceAll("\\s+", " ").trim();
    }
}
