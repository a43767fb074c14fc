import java.io.IOException;
import java.io.UncheckedIOException;
import java.nio.file.Files;
import java.nio.file.Path;
import java.util.ArrayList;
import java.util.LinkedHashMap;
import java.util.List;
import java.util.Map;

// The document's own words: its terms and promises, each as a row of sentences.
final class Doc {
    private static final Map<String, String> SECTIONS = read();

    private Doc() {
    }

    private static Map<String, String> read() {
        try {
            Map<String, String> sections = new LinkedHashMap<>();
            for (String part : Files.readString(Path.of("../shared/DOC.md")).split("(?m)^## ")) {
                String name = part.lines().findFirst().orElse("").replaceFirst(":.*", "");
                if (name.equals("Terms") || name.startsWith("Promise ")) {
                    sections.put(name, wordsOf(part.substring(part.indexOf('\n'))));
                }
            }
            return sections;
        } catch (IOException e) {
            throw new UncheckedIOException(e);
        }
    }

    // A promise's method stands ahead of its sentences, in quotes of its own.
    private static String wordsOf(String part) {
        return part.replaceAll("```\\w*", "").replaceAll("\\s+", " ").strip().replaceFirst("^`[^`]*`: ", "");
    }

    static List<String> sections() {
        return new ArrayList<>(SECTIONS.keySet());
    }

    static boolean says(String section, String words) {
        return SECTIONS.getOrDefault(section, "").contains(words);
    }

    // The dots of "0 .. 99" end none.
    static List<String> sentences(String section) {
        List<String> sentences = new ArrayList<>();
        for (String sentence : SECTIONS.getOrDefault(section, "").split("(?<=[^. ]\\.) (?=\\S)")) {
            if (!sentence.startsWith("====")) {
                sentences.add(sentence);
            }
        }
        return sentences;
    }
}
