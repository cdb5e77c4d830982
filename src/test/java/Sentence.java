import java.io.IOException;
import java.nio.file.Files;
import java.nio.file.Path;
import java.util.ArrayList;
import java.util.BitSet;
import java.util.List;
import java.util.Map;
import java.util.TreeMap;
import java.util.regex.Matcher;
import java.util.regex.Pattern;

/**
 * Ties each edge test to the words of the document that it tests. At the end it tells which words of the document have
 * no test, so that none is forgotten when the document is read again.
 */
final class Sentence {
    /** The section "What it is"; a promise has its number. */
    static final int USE = -1;
    static final int DESCRIPTION = 0;
    static final int PROMISES = 29;

    private static final Path DOCUMENT = Path.of("../shared/DOC.md");
    private static final Map<Integer, String> TEXTS = new TreeMap<>();
    private static final Map<Integer, BitSet> QUOTED = new TreeMap<>();
    private static int section = USE;
    private static int tests = 0;

    private Sentence() {
    }

    static void readDocument() throws IOException {
        String document = Files.readString(DOCUMENT);
        TEXTS.put(USE, plain(between(document, "## What it is", "\n## ")));
        TEXTS.put(DESCRIPTION, plain(between(document, "## Description", "\n## ")));
        for (int promise = 1; promise <= PROMISES; promise++) {
            TEXTS.put(promise, plain(between(document, "## Promise " + promise + ":", "\n## ")));
        }
        TEXTS.keySet().forEach(key -> QUOTED.put(key, new BitSet()));
    }

    private static String between(String document, String heading, String end) {
        int start = document.indexOf(heading);
        Check.due("the document has " + heading, start >= 0, true);
        return start < 0 ? "" : document.substring(start, document.indexOf(end, start));
    }

    /** Without the heading, the signature (FaceTest has it), marks and line ends. */
    private static String plain(String text) {
        List<String> lines = new ArrayList<>(text.lines().toList());
        lines.remove(0);
        lines.removeIf(line -> line.matches("`[^`]*\\(.*\\).*`"));
        lines.replaceAll(line -> line.replaceAll("^- ", ""));
        return String.join(" ", lines).replace("`", "").replaceAll("\\s+", " ");
    }

    static void section(int number) {
        section = number;
    }

    /** Runs the test of a sentence, or of a part of it, of the present section. */
    static void test(String words, Runnable test) {
        quote(words);
        int before = Check.made();
        Check.about("[" + section + "] " + words);
        try {
            test.run();
        } catch (RuntimeException e) {
            Check.tell("threw " + e + " at " + e.getStackTrace()[0]);
        }
        Check.about("");
        Check.due("checks made for: " + words, Check.made() > before, true);
        tests++;
    }

    /** Words that name no case of their own: a list's heading, or what other words of the section say again. */
    static void untested(String words) {
        quote(words);
    }

    private static void quote(String words) {
        Matcher found = Pattern.compile(Pattern.quote(words)).matcher(TEXTS.get(section));
        boolean stands = false;
        while (found.find()) {
            QUOTED.get(section).set(found.start(), found.end());
            stands = true;
        }
        Check.due("section " + section + " says: " + words, stands, true);
    }

    static void end() {
        TEXTS.forEach((key, text) -> {
            StringBuilder left = new StringBuilder();
            for (int i = 0; i < text.length(); i++) {
                left.append(QUOTED.get(key).get(i) ? '\n' : text.charAt(i));
            }
            String forgotten = left.toString().replaceAll("[\\s.,;:]+", " ").trim();
            if (!forgotten.isEmpty()) {
                Check.tell("no test in section " + key + " for: " + forgotten);
            }
        });
        System.out.println(tests + " sentences and parts of sentences");
    }
}
