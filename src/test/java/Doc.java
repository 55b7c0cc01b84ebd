import java.io.IOException;
import java.nio.file.Files;
import java.nio.file.Path;
import java.util.LinkedHashMap;
import java.util.Map;

/**
 * The document, from "What it is" to "Promise 29": a test quotes the words that it is about, and what
 * no test has quoted is found by end(). So no sentence goes untested, and no quotation is made up.
 */
final class Doc {
    private static final String FIRST = "What it is", FACE = "The public face", TERMS = "Terms", BEHIND_LAST = "Not promised";

    private static final class Section {
        final String heading;
        final String words;
        final boolean[] quoted;

        Section(String heading, String words) {
            this.heading = heading;
            this.words = words;
            quoted = new boolean[words.length()];
        }
    }

    private static final Map<String, Section> SECTIONS = new LinkedHashMap<>();
    private static Section section;

    private Doc() {
    }

    static void open() throws IOException {
        boolean due = false;
        for (String part : Files.readString(Path.of("../shared/DOC.md")).split("(?m)^## ")) {
            String heading = part.lines().findFirst().orElse("");
            due = due ? !heading.equals(BEHIND_LAST) : heading.equals(FIRST);
            if (due) {
                String key = heading.replaceFirst(":.*", "");
                SECTIONS.put(key, new Section(heading, words(part.substring(heading.length()))));
            }
        }
        Check.due("sections", SECTIONS.size(), 32);
    }

    /** What a section says, without the marks of its form and without the face, which stands in a section of its own. */
    private static String words(String text) {
        return text.replaceAll("(?m)^```\\w*$", " ").replaceAll("(?m)^==== \\d ", " ").replaceAll("(?m)^`[^`\n]*`: ", " ")
            .replaceAll("(?m)^Details\\. ", " ").replaceAll("\\s+", " ").strip();
    }

    static void promise(int number) {
        about("Promise " + number);
    }

    static void whatItIs() {
        about(FIRST);
    }

    static void face() {
        about(FACE);
    }

    static void terms() {
        about(TERMS);
    }

    private static void about(String key) {
        section = SECTIONS.get(key);
        Check.about = section.heading;
    }

    /** What follows is about these words of the section. */
    static void says(String words) {
        Check.about = section.heading + ", '" + words + "'";
        int at = section.words.indexOf(words);
        Check.holds("is said", at >= 0);
        Check.due("is said in one place", section.words.indexOf(words, at + 1), -1);
        for (int i = at; at >= 0 && i < at + words.length(); i++) {
            section.quoted[i] = true;
        }
    }

    /** All that is said was quoted. */
    static void end() {
        for (Section s : SECTIONS.values()) {
            StringBuilder left = new StringBuilder();
            for (int i = 0; i < s.quoted.length; i++) {
                left.append(s.quoted[i] ? ' ' : s.words.charAt(i));
            }
            Check.about = s.heading;
            Check.holds("no test has quoted: " + left.toString().replaceAll("\\s+", " "), left.toString().isBlank());
        }
        Check.about = "";
    }
}
