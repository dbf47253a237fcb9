import java.io.IOException;
import java.nio.file.Files;
import java.nio.file.Path;
import java.util.Arrays;
import java.util.LinkedHashMap;
import java.util.Map;

/**
 * The document by its sections. Each boundary test quotes the words that it is for; what no test quotes
 * must be listed as words that name no boundary, so that no sentence can be left out unseen.
 */
final class Sentences {
    private static final class Section {
        private final StringBuilder words = new StringBuilder();
        private boolean[] told = new boolean[0];
    }

    private final Map<String, Section> sections = new LinkedHashMap<>();
    private final Check check = new Check();
    private String quoted = "";
    private int answers = 1;

    Sentences(Path document) throws IOException {
        Section section = new Section();
        for (String line : Files.readAllLines(document)) {
            if (line.startsWith("#")) {
                section = new Section();
                sections.put(key(line), section);
            } else {
                section.words.append(line).append('\n');
            }
        }
        for (Section one : sections.values()) {
            one.told = new boolean[one.words.length()];
        }
    }

    /** A heading without its signs, and of a promise only its number: "Promise 2". */
    private static String key(String heading) {
        String words = heading.replaceFirst("^#+ *", "");
        int colon = words.indexOf(':');
        return colon < 0 ? words : words.substring(0, colon);
    }

    /** All answers up to the next quote are for these words. */
    void tested(String section, String words) {
        endOfTest();
        quoted = section + ", \"" + words + "\"";
        answers = 0;
        mark(section, words);
    }

    void namesNoBoundary(String section, String words) {
        mark(section, words);
    }

    void sectionNamesNoBoundary(String name) {
        Section section = sections.get(name);
        check.due(name, "there is such a section", section == null ? 0 : 1, 1);
        if (section != null) {
            Arrays.fill(section.told, true);
        }
    }

    void due(String call, long got, long want) {
        answers++;
        check.due(quoted, call, got, want);
    }

    private void endOfTest() {
        check.due(quoted, "the test asks something", answers > 0 ? 1 : 0, 1);
    }

    private void mark(String name, String words) {
        Section section = sections.get(name);
        int start = section == null ? -1 : section.words.indexOf(words);
        check.due(name, "the words \"" + words + "\" are in the document", start >= 0 ? 1 : 0, 1);
        for (int i = 0; start >= 0 && i < words.length(); i++) {
            section.told[start + i] = true;
        }
    }

    void end(String name) {
        endOfTest();
        for (Map.Entry<String, Section> entry : sections.entrySet()) {
            endOfSection(entry.getKey(), entry.getValue());
        }
        check.end(name);
    }

    private void endOfSection(String name, Section section) {
        StringBuilder left = new StringBuilder();
        for (int i = 0; i < section.told.length; i++) {
            left.append(section.told[i] ? '|' : section.words.charAt(i));
        }
        for (String words : left.toString().split("\\|+")) {
            boolean isTold = words.chars().noneMatch(Character::isLetterOrDigit);
            check.due(name, "the words \"" + words.trim() + "\" have a test or name no boundary",
                    isTold ? 1 : 0, 1);
        }
    }
}
