import java.io.IOException;
import java.nio.charset.StandardCharsets;
import java.nio.file.Files;
import java.nio.file.Path;
import java.util.ArrayList;
import java.util.Arrays;
import java.util.LinkedHashMap;
import java.util.List;
import java.util.Map;

/**
 * Tests that each stand under a sentence of the document. Each sentence must be there word by word, and no word of a
 * section that has been gone through may be left over: so a sentence without a test is seen.
 */
final class Sentence {
    private static final Map<String, List<String>> SAID = new LinkedHashMap<>();

    private final String section;

    private Sentence(String section) {
        this.section = section;
        SAID.putIfAbsent(section, new ArrayList<>());
    }

    static Sentence in(String section) {
        return new Sentence(section);
    }

    /** A sentence, or a part of one that names a case of its own, and its test. */
    Sentence says(String words, Runnable test) {
        SAID.get(section).add(words);
        int before = Due.asked();
        Due.under(section + ", \"" + words + "\": ");
        try {
            test.run();
        } catch (RuntimeException thrown) {
            Due.holds("no call throws, but: " + thrown, false);
        }
        Due.holds("the sentence has a test", Due.asked() > before);
        Due.under("");
        return this;
    }

    /** Words that promise nothing that a call could answer. */
    Sentence promisesNothing(String words) {
        SAID.get(section).add(words);
        return this;
    }

    /** Wants each of these sections, and that nothing of them is left over. */
    static void compareWith(Path document, List<String> sections) throws IOException {
        Map<String, String> texts = sectionsOf(Files.readString(document, StandardCharsets.UTF_8));
        for (String section : sections) {
            Due.holds("the document has a section " + section, texts.containsKey(section));
            Due.holds(section + " has tests", SAID.containsKey(section));
        }
        SAID.forEach((section, said) -> compare(section, texts.getOrDefault(section, ""), said));
    }

    /** By their headings (up to a colon), each in one line. */
    private static Map<String, String> sectionsOf(String document) {
        Map<String, String> sections = new LinkedHashMap<>();
        for (String part : document.split("(?m)^## ")) {
            int end = part.indexOf('\n');
            if (end > 0) {
                sections.put(part.substring(0, end).replaceAll(":.*", "").trim(), oneLine(part.substring(end)));
            }
        }
        return sections;
    }

    private static String oneLine(String text) {
        return text.replaceAll("(?m)^[A-Z ,]+$", "").replaceAll("\\s+", " ");
    }

    private static void compare(String section, String text, List<String> said) {
        boolean[] covered = new boolean[text.length()];
        for (String words : said) {
            int from = text.indexOf(words);
            Due.holds(section + " says: " + words, from >= 0);
            for (; from >= 0; from = text.indexOf(words, from + 1)) {
                Arrays.fill(covered, from, from + words.length(), true);
            }
        }
        StringBuilder left = new StringBuilder();
        for (int at = 0; at < text.length(); at++) {
            left.append(covered[at] ? ' ' : text.charAt(at));
        }
        String leftOver = left.toString().replaceAll("`[^`]*`", " ").replaceAll("\\bReturns\\b", " ");
        leftOver = leftOver.replaceAll("[^A-Za-z0-9]+", " ").trim();
        Due.holds(section + " has no words without a test, but: " + leftOver, leftOver.isEmpty());
    }
}
