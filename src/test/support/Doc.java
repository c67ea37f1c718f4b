import java.io.IOException;
import java.nio.file.Files;
import java.nio.file.Path;
import java.util.HashMap;
import java.util.Map;
import java.util.regex.Matcher;
import java.util.regex.Pattern;

/**
 * The document, cut at its headings. Each test of an edge quotes the words that name it; the words are
 * crossed out, and a heading of which an edge is left at the end has a sentence without a test.
 */
final class Doc {
    private static final Path PLACE = Path.of("../shared/DOC.md");
    private static final String CROSSED_OUT = " ~ ";
    /** The words by which the document names an edge: ranges, refusals, what is empty, ties. */
    private static final Pattern EDGE = Pattern.compile(
        "\\.\\.|NONE|false|\\bif\\b|\\bIf\\b|\\bat most\\b|\\bat first\\b|\\bbelow\\b|\\bas far as\\b"
        + "|\\bnone\\b|\\bno\\b|\\bNo\\b|\\b[Ww]ithout\\b|\\bthere are\\b|\\blikewise\\b|\\bfewest\\b|\\bfew\\b"
        + "|\\bleast\\b|\\bmost\\b|\\bjust one\\b|\\bahead\\b|\\bdownwards\\b|\\brim\\b|\\balone\\b|\\blast\\b"
        + "|\\d to \\d");
    private static final Map<String, String> WHOLE = new HashMap<>();
    private static final Map<String, String> LEFT = new HashMap<>();

    private Doc() {
    }

    /** To be called first in a test of an edge: the words must stand under that heading. */
    static void says(String heading, String words) {
        read();
        String text = WHOLE.getOrDefault(heading, "");
        Due.due("'" + words + "' stands under '" + heading + "'", text.contains(words), true);
        LEFT.put(heading, LEFT.getOrDefault(heading, "").replace(words, CROSSED_OUT));
    }

    /** To be called last: no edge may be left under that heading. */
    static void hasNoEdgeLeft(String heading) {
        read();
        Due.due("there is a heading '" + heading + "'", WHOLE.containsKey(heading), true);
        String left = LEFT.getOrDefault(heading, "");
        Matcher edge = EDGE.matcher(left);
        boolean found = edge.find();
        Due.due("an edge without a test under '" + heading + "': " + (found ? left.substring(edge.start()) : ""),
            found, false);
    }

    private static void read() {
        if (!WHOLE.isEmpty()) {
            return;
        }
        try {
            for (String part : Files.readString(PLACE).split("(?m)^## ")) {
                int end = part.indexOf('\n');
                String heading = (end < 0 ? part : part.substring(0, end)).split(":")[0].trim();
                String text = end < 0 ? "" : part.substring(end).replace("```text", "").replace("```", "");
                WHOLE.put(heading, text.replaceAll("\\s+", " "));
            }
        } catch (IOException e) {
            System.out.println("the document can't be read: " + e);
        }
        LEFT.putAll(WHOLE);
    }
}
