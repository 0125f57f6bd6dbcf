import java.io.IOException;
import java.io.UncheckedIOException;
import java.nio.file.Files;
import java.nio.file.Path;
import java.util.ArrayList;
import java.util.LinkedHashMap;
import java.util.List;
import java.util.Map;

/**
 * The sentences of ../shared/DOC.md by their sections: "What it is", "Terms" (the head), "Terms 1" to "Terms 4" and
 * "Promise 1" to "Promise 38". It keeps which of them have been asked for by a test.
 */
final class Document {
    private static final class Sentence {
        final String text;
        boolean asked = false;

        Sentence(String text) {
            this.text = text;
        }
    }

    private static final Map<String, List<Sentence>> SECTIONS = read();

    private Document() {
    }

    private static Map<String, List<Sentence>> read() {
        Map<String, List<Sentence>> sections = new LinkedHashMap<>();
        List<Sentence> section = null;
        for (String line : lines()) {
            String text = line.strip();
            if (text.startsWith("## ")) {
                String name = text.substring(3).replaceAll(":.*", "");
                section = new ArrayList<>();
                if (name.equals("What it is") || name.equals("Terms") || name.startsWith("Promise ")) {
                    sections.put(name, section);
                }
                continue;
            }
            if (section == null || text.isEmpty() || text.startsWith("```")) {
                continue;
            }
            if (text.matches("[1-4]\\. .*")) {
                section = new ArrayList<>();
                sections.put("Terms " + text.charAt(0), section);
                text = text.substring(3);
            }
            for (String sentence : text.split("(?<=\\.) (?=[A-Z-])")) {
                section.add(new Sentence(sentence));
            }
        }
        return sections;
    }

    private static List<String> lines() {
        try {
            return Files.readAllLines(Path.of("../shared/DOC.md"));
        } catch (IOException e) {
            throw new UncheckedIOException(e);
        }
    }

    /** Says that a test asks for the sentence with these words; it must stand in that section. */
    static void ask(String section, String words) {
        boolean stands = false;
        for (Sentence sentence : SECTIONS.getOrDefault(section, List.of())) {
            if (sentence.text.contains(words)) {
                sentence.asked = true;
                stands = true;
            }
        }
        Check.due(section + " has no sentence with: " + words, stands ? 1 : 0, 1);
    }

    /** Each sentence of each section has a test, but those that tell the parts of the interface or what it is all about. */
    static void checkAllAsked() {
        Check.due("sections of the document", SECTIONS.size(), 2 + 4 + 38);
        SECTIONS.forEach((section, sentences) -> {
            for (Sentence sentence : sentences) {
                boolean free = sentence.text.matches("(Ahead of the calls|Each holds until|A door that creaks).*");
                Check.due(section + ", no test asks for: " + sentence.text, sentence.asked || free ? 1 : 0, 1);
            }
        });
    }
}
