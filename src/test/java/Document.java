import java.io.IOException;
import java.nio.file.Files;
import java.nio.file.Path;
import java.util.LinkedHashMap;
import java.util.Map;

/** The document's sections, and which of their words tests have quoted. */
final class Document {
    // headings that promise nothing
    private static final String[] NOT_TOLD = {"StoneRiver", "The public face", "Not promised"};
    private static final String GROUPS = "Ahead of the calls";

    private final Map<String, String> texts = new LinkedHashMap<>();
    private final Map<String, boolean[]> quoted = new LinkedHashMap<>();
    private int wrong;

    /** Without the document's file nothing is looked up, and no quote is wrong. */
    Document(Path file) throws IOException {
        if (!Files.exists(file)) {
            System.out.println("no document at " + file);
            return;
        }
        for (String part : Files.readString(file).split("(?m)^#+ ")) {
            int end = part.indexOf('\n');
            if (end > 0) {
                keep(part.substring(0, end).trim(), part.substring(end));
            }
        }
    }

    private void keep(String heading, String body) {
        StringBuilder bare = new StringBuilder();
        for (String line : body.split("\n")) {
            boolean told = !line.startsWith("```") && !line.startsWith(GROUPS);
            bare.append(told ? line : "").append(' ');
        }
        // a promise begins with its call, which is no sentence
        String text = bare.toString().replaceFirst("^\\s*`[^`]*`: ", "").replaceAll("\\s+", " ").trim();
        String name = heading.startsWith("Promise") ? heading.substring(0, heading.indexOf(':')) : heading;
        texts.put(name, text);
        quoted.put(name, new boolean[text.length()]);
    }

    void quote(String section, String words) {
        if (texts.isEmpty()) {
            return;
        }
        String text = texts.getOrDefault(section, "");
        int at = text.indexOf(words);
        if (at < 0 || text.indexOf(words, at + 1) >= 0) {
            wrong++;
            System.out.println("not once in the document's " + section + ": " + words);
            return;
        }
        for (int i = 0; i < words.length(); i++) {
            quoted.get(section)[at + i] = true;
        }
    }

    /** How many quotes were wrong, and how many runs of words no test has quoted. */
    int wrong() {
        int left = 0;
        for (String section : texts.keySet()) {
            if (isTold(section)) {
                left += tellUnquoted(section);
            }
        }
        return wrong + left;
    }

    private static boolean isTold(String section) {
        for (String name : NOT_TOLD) {
            if (section.equals(name)) {
                return false;
            }
        }
        // that section is the document's own first words once more, and what they begin of the terms
        return !section.equals("What it is");
    }

    private int tellUnquoted(String section) {
        String text = texts.get(section);
        boolean[] marks = quoted.get(section);
        int left = 0;
        for (int i = 0; i < marks.length; i++) {
            int start = i;
            boolean words = false;
            for (; i < marks.length && !marks[i]; i++) {
                words |= Character.isLetterOrDigit(text.charAt(i));
            }
            if (words) {
                left++;
                System.out.println("no test quotes, of " + section + ": " + text.substring(start, i));
            }
        }
        return left;
    }
}
