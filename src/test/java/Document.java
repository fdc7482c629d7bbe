import java.io.IOException;
import java.nio.file.Files;
import java.nio.file.Path;
import java.util.ArrayList;
import java.util.BitSet;
import java.util.List;
import java.util.Map;
import java.util.TreeMap;
import java.util.regex.Matcher;
import java.util.regex.Pattern;

/**
 * The document's sections by name ("Use", "ERRORS", "Term 1" .. "Term 6", "Promise 1" .. "Promise 37"), and which
 * places in them tests have quoted, so that no word that names a boundary is forgotten.
 */
final class Document {
    private static final Path FILE = Path.of("../shared/DOC.md");
    // A range, a word for a limit or for a choice between equals, an ERROR.
    private static final Pattern BOUNDARY = Pattern.compile("-?\\d+ \\.\\. \\d+|1 to 4|at most|at first|held|higher"
        + "|(?<!KIND )above|below|wrap|an int\\)|\\bcut\\b|by 0|of several|or less|or more|less PAIN|too early|too many"
        + "|missing|\\blacks\\b|\\bnone\\b|no more|no BASINS|first 30|is empty|BEYOND|NONE|STATE|FULL|KIND: it"
        + "|PARTED|more than|fewest|\\bleast\\b|any number|doesn't matter");

    private final Map<String, String> sections = new TreeMap<>();
    private final Map<String, BitSet> quoted = new TreeMap<>();

    Document() {
        String text = read();
        if (!text.isEmpty()) {
            cut(text);
        }
    }

    /** Without the document the tests still test the program. */
    private static String read() {
        try {
            return Files.exists(FILE) ? Files.readString(FILE).replaceAll("\\s+", " ") : "";
        } catch (IOException e) {
            return "";
        }
    }

    private void cut(String text) {
        section("Use", text, "An object is used for", "## The public face");
        section("ERRORS", text, "ERRORS are answers", " 1. BASINS 0");
        String[] begins = {"1. BASINS 0", "2. TEXTS are", "3. RAIN is", "4. AHEAD by", "5. VOICES of", "6. SHEETS 0"};
        for (int i = 0; i < begins.length; i++) {
            section("Term " + (i + 1), text, begins[i], i < 5 ? begins[i + 1] : "Ahead of the calls");
        }
        for (int i = 1; i <= 37; i++) {
            section("Promise " + i, text, "## Promise " + i + ":", i < 37 ? "## Promise " + (i + 1) + ":" : "## Not");
        }
    }

    private void section(String name, String text, String begin, String end) {
        int from = text.indexOf(begin);
        int to = text.indexOf(end, from + 1);
        sections.put(name, from < 0 || to < 0 ? "" : text.substring(from, to));
        quoted.put(name, new BitSet());
    }

    /** Whether the section has that sentence (or there is no document here). */
    boolean quote(String section, String sentence) {
        String text = sections.get(section);
        if (text == null) {
            return sections.isEmpty();
        }
        int from = text.indexOf(sentence);
        if (from >= 0) {
            quoted.get(section).set(from, from + sentence.length());
        }
        return from >= 0;
    }

    /** Words that name a boundary and stand in no sentence that was quoted, of sections with such a name. */
    List<String> forgotten(String beginning) {
        List<String> found = new ArrayList<>();
        for (Map.Entry<String, String> section : sections.entrySet()) {
            if (section.getKey().startsWith(beginning)) {
                String text = section.getValue();
                Matcher m = BOUNDARY.matcher(text);
                while (m.find()) {
                    if (!quoted.get(section.getKey()).get(m.start())) {
                        int to = Math.min(text.length(), m.end() + 30);
                        found.add(section.getKey() + ": .." + text.substring(Math.max(0, m.start() - 30), to) + "..");
                    }
                }
            }
        }
        return found;
    }
}
