import java.io.IOException;
import java.nio.file.Files;
import java.nio.file.Path;
import java.util.ArrayList;
import java.util.LinkedHashMap;
import java.util.List;
import java.util.Map;
import java.util.regex.Matcher;
import java.util.regex.Pattern;

/**
 * The document's sentences that name a boundary case. Each edge test quotes the one whose test it is, so that it can be
 * seen that no such sentence is left without a test, and that none is quoted that the document doesn't say.
 */
final class Edge {
    static final String TERMS = "Terms";
    static final Path DOCUMENT = Path.of("../shared/DOC.md");

    /** By these words a sentence names a boundary case. */
    private static final Pattern NAMED = Pattern.compile("\\b(BEYOND|NONE|STATE|FULL|KIND:)"
        + "|\\d+ (to|\\.\\.) \\d+|\\bat most\\b|\\bat first\\b|\\bat least\\b|\\bno more than\\b|\\bheld\\b|\\bbeyond\\b"
        + "|\\bwrap\\b|\\bround\\b|\\bseveral\\b|\\bboth by 0\\b|\\btoo early\\b|\\bempty\\b|\\bmissing\\b"
        + "|\\bany number\\b|\\bbelow 0\\b|\\babove 0\\b|\\bnobody\\b|\\bcut\\b|\\bfirst\\b|\\blacks\\b|\\bERROR\\b");
    /** These bear such a word and name no boundary case. */
    private static final List<String> NAME_NONE = List.of("the lowest first");

    private static final Map<String, List<String>> QUOTED = new LinkedHashMap<>();
    private static int askedBefore = -1;

    private Edge() {
    }

    /** What is asked from here on is the test of this sentence. */
    static void of(String part, String sentence) {
        endOfOne();
        QUOTED.computeIfAbsent(part, p -> new ArrayList<>()).add(sentence);
        Due.about(part + ", \"" + sentence + "\": ");
        askedBefore = Due.asked();
    }

    static void of(int promise, String sentence) {
        of("Promise " + promise, sentence);
    }

    private static void endOfOne() {
        if (askedBefore == Due.asked()) {
            Due.due("something asked", false);
        }
    }

    /** Goes by the document, if it is there: whoever has the project alone can still run its tests. */
    static void compareWithDocument() throws IOException {
        endOfOne();
        Due.about("");
        if (!Files.isRegularFile(DOCUMENT)) {
            System.out.println("no " + DOCUMENT + " here: the quotes are not compared with it");
            return;
        }
        Map<String, String> parts = partsOf(Files.readString(DOCUMENT));
        for (String part : QUOTED.keySet()) {
            Due.due("the document has the part " + part, parts.containsKey(part));
        }
        for (int promise = 1; promise <= 39; promise++) {
            Due.due("Promise " + promise + " has an edge test", QUOTED.containsKey("Promise " + promise));
        }
        for (Map.Entry<String, String> part : parts.entrySet()) {
            if (part.getKey().startsWith("Promise ") || part.getKey().equals(TERMS)) {
                comparePart(part.getKey(), part.getValue());
            }
        }
    }

    private static void comparePart(String part, String text) {
        boolean[] quoted = new boolean[text.length()];
        for (String sentence : QUOTED.getOrDefault(part, List.of())) {
            int from = text.indexOf(sentence);
            Due.due(part + " says: " + sentence, from >= 0);
            mark(quoted, from, sentence.length());
        }
        for (String other : NAME_NONE) {
            mark(quoted, text.indexOf(other), other.length());
        }
        Matcher named = NAMED.matcher(text);
        while (named.find()) {
            int end = Math.min(text.length(), named.end() + 40);
            Due.due(part + " has an edge test for: .. " + text.substring(named.start(), end), quoted[named.start()]);
        }
    }

    private static void mark(boolean[] quoted, int from, int many) {
        for (int i = from; from >= 0 && i < from + many; i++) {
            quoted[i] = true;
        }
    }

    /** Parts by their headings, in one line each, with one blank where there are several. */
    private static Map<String, String> partsOf(String document) {
        Map<String, String> parts = new LinkedHashMap<>();
        for (String part : document.split("(?m)^## ")) {
            int end = part.indexOf('\n');
            String heading = end < 0 ? part : part.substring(0, end);
            parts.put(heading.replaceAll("^(Promise \\d+):.*", "$1"),
                part.substring(Math.max(0, end)).replaceAll("\\s+", " "));
        }
        return parts;
    }
}
