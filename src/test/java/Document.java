import java.util.ArrayList;
import java.util.LinkedHashMap;
import java.util.List;
import java.util.Map;
import java.util.TreeMap;

/** The sentences of the document, and how many expectations have tested each. */
final class Document {
    static final String WHAT_IT_IS = "What it is";
    static final String TERMS = "Terms";

    private static final String PARAGRAPHS = "\n\\s*\n|\n(?=- `)";
    private static final String SENTENCES = "(?<=\\.) (?=[A-Z\"])";
    private static final Map<String, Map<String, Integer>> SECTIONS = new TreeMap<>();

    private Document() {
    }

    static void read(String text) {
        for (String section : text.split("(?m)^## ")) {
            String[] parts = section.split("\n", 2);
            String name = parts[0].replaceAll(":.*", "").trim();
            if (name.equals(WHAT_IT_IS) || name.equals(TERMS) || name.startsWith("Promise ")) {
                SECTIONS.put(name, split(parts[1].trim()));
            }
        }
    }

    private static Map<String, Integer> split(String text) {
        Map<String, Integer> found = new LinkedHashMap<>();
        for (String paragraph : text.split(PARAGRAPHS)) {
            String line = paragraph.replaceAll("\\s+", " ").trim();
            if (line.startsWith("`") || line.startsWith("The constants:")) {
                line = line.replaceFirst("^`[^`]*\\(.*?\\)[^`]*`: |^The constants: ", "");
            }
            // The reason and the detail of a constant belong together.
            for (String sentence : line.startsWith("`") ? new String[] {line} : line.split(SENTENCES)) {
                found.put(sentence, 0);
            }
        }
        return found;
    }

    /** Returns the one sentence of a section that is, or begins with, these words; or an empty text. */
    static String sentence(String section, String words) {
        Map<String, Integer> sentences = SECTIONS.getOrDefault(section, Map.of());
        if (sentences.containsKey(words)) {
            return words;
        }
        List<String> found = new ArrayList<>();
        for (String sentence : sentences.keySet()) {
            if (sentence.startsWith(words)) {
                found.add(sentence);
            }
        }
        return found.size() == 1 ? found.get(0) : "";
    }

    /** The sentences of the terms that begin with these words. */
    static List<String> sentences(String words) {
        List<String> found = new ArrayList<>(SECTIONS.get(TERMS).keySet());
        found.removeIf(sentence -> !sentence.startsWith(words));
        return found;
    }

    static void count(String section, String sentence) {
        SECTIONS.get(section).merge(sentence, 1, Integer::sum);
    }

    /** The sentences that need a test and have none. */
    static List<String> untested() {
        List<String> found = new ArrayList<>();
        SECTIONS.forEach((section, sentences) -> sentences.forEach((sentence, times) -> {
            if (times == 0 && needsTest(sentence)) {
                found.add(section + ": " + sentence);
            }
        }));
        return found;
    }

    /** Headings, the subject of the whole document, and parameters without a range tell nothing to test. */
    private static boolean needsTest(String sentence) {
        boolean heading = sentence.matches("[A-Z]\\w+( rules)?\\.");
        boolean subject = sentence.startsWith("An office that decides");
        boolean anyIndex = sentence.matches("- `\\w+`: the index of (a|one|the other) (sock|drawer)( of the pair)?");
        return !heading && !subject && !anyIndex;
    }

    static int size() {
        return SECTIONS.values().stream().mapToInt(Map::size).sum();
    }
}
