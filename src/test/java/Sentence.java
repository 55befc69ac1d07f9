import java.io.IOException;
import java.io.UncheckedIOException;
import java.nio.file.Files;
import java.nio.file.Path;
import java.util.LinkedHashMap;
import java.util.Map;

/**
 * Ties the answers that are asked next to the sentence of ../shared/DOC.md that they are of, and sees to it
 * that the words stand there, that each sentence has an answer asked, and that no words are left without one.
 */
final class Sentence {
    private static final Map<String, Section> SECTIONS = read();
    private static int askedBefore = 0;
    private static String now = "";

    private Sentence() {
    }

    private static final class Section {
        final String words;
        final boolean[] told;

        Section(String words) {
            this.words = words;
            this.told = new boolean[words.length()];
        }

        boolean tell(String part) {
            int at = words.indexOf(part);
            for (int next = at; next >= 0; next = words.indexOf(part, next + 1)) {
                java.util.Arrays.fill(told, next, next + part.length(), true);
            }
            return at >= 0;
        }

        /** The words that no sentence told, "" if there are none. */
        String rest() {
            StringBuilder rest = new StringBuilder();
            for (int i = 0; i < told.length; i++) {
                rest.append(told[i] || !Character.isLetterOrDigit(words.charAt(i)) ? ' ' : words.charAt(i));
            }
            return rest.toString().replaceAll(" +", " ").trim();
        }
    }

    /** Terms are told under "Terms", promise 3 under "Promise 3". */
    static void of(String where, String words) {
        endOne();
        now = where + ", \"" + words + "\": ";
        Due.about("");
        Section section = SECTIONS.get(where);
        Due.is(now + "stands in the document", section != null && section.tell(words) ? 1 : 0, 1);
        Due.about(now);
        askedBefore = Due.asked();
    }

    /** Behind the last sentence: each word of the terms and of the promises is of one that was told. */
    static void end() {
        endOne();
        Due.about("");
        Due.is("sections (terms and 28 promises)", SECTIONS.size() >= 29 ? 1 : 0, 1);
        for (Map.Entry<String, Section> section : SECTIONS.entrySet()) {
            if (section.getKey().equals("Terms") || section.getKey().startsWith("Promise")) {
                String rest = section.getValue().rest();
                Due.is(section.getKey() + " has words without a test: [" + rest + "]", rest.length(), 0);
            }
        }
        Due.end();
    }

    private static void endOne() {
        Due.about("");
        if (!now.isEmpty()) {
            Due.is(now + "has answers asked", Due.asked() > askedBefore ? 1 : 0, 1);
        }
        now = "";
    }

    private static Map<String, Section> read() {
        String document;
        try {
            document = Files.readString(Path.of("../shared/DOC.md"));
        } catch (IOException e) {
            throw new UncheckedIOException(e);
        }
        Map<String, Section> sections = new LinkedHashMap<>();
        for (String part : document.split("(?m)^## ")) {
            int end = part.indexOf('\n');
            if (end > 0) {
                String name = part.substring(0, end).replaceAll(":.*", "").trim();
                sections.put(name, new Section(words(part.substring(end))));
            }
        }
        return sections;
    }

    /** Leaves out the marks of the document's make, a call's face, and what is said of the interface's order. */
    private static String words(String body) {
        return body.replaceAll("(?m)^```.*$", "")
                .replaceAll("(?m)^Ahead of the calls .*$", "")
                .replaceAll("==== \\d\\.", "")
                .replaceAll("(?m)^`[^`]*\\([^`]*\\)[^`]*`: ", "")
                .replaceAll("\\s+", " ").trim();
    }
}
