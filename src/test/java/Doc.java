import java.io.IOException;
import java.nio.file.Files;
import java.nio.file.Path;
import java.util.ArrayList;
import java.util.BitSet;
import java.util.LinkedHashMap;
import java.util.List;
import java.util.Map;

/**
 * The words of ../shared/DOC.md by its parts, "What it is" to "Not promised", and which of them were quoted:
 * each word of each sentence is to be, so that none of its clauses goes without a test.
 */
final class Doc {
    private static final Path PLACE = Path.of("../shared/DOC.md");

    /** A sentence, or a line of the face, and the letters of it that were quoted. */
    private static final class Sentence {
        final String part;
        final String words;
        final BitSet quoted = new BitSet();

        Sentence(String part, String words) {
            this.part = part;
            this.words = words;
        }

        boolean quote(String said) {
            int at = words.indexOf(said);
            for (int i = at; i >= 0; i = words.indexOf(said, i + 1)) {
                quoted.set(i, i + said.length());
            }
            return at >= 0;
        }

        /** The words that were not quoted, with a gap as "..". */
        String unquoted() {
            StringBuilder left = new StringBuilder();
            for (int i = 0; i < words.length(); i++) {
                if (!quoted.get(i)) {
                    left.append(words.charAt(i));
                } else if (i > 0 && !quoted.get(i - 1)) {
                    left.append("..");
                }
            }
            return left.toString();
        }
    }

    private final Map<String, List<Sentence>> sentences = new LinkedHashMap<>();

    Doc() throws IOException {
        String part = "";
        for (String line : Files.readAllLines(PLACE)) {
            if (line.startsWith("## ")) {
                part = line.substring(3).replaceAll(":.*", "");
            } else if (!part.isEmpty()) {
                learn(part, line);
            }
        }
    }

    private void learn(String part, String line) {
        boolean isHeading = line.startsWith("#") || line.equals("Stops, doors");
        if (line.isBlank() || isHeading || line.startsWith("```")) {
            return;
        }
        for (String sentence : line.replaceFirst("^(\\d\\.|-) ", "").split("(?<=\\.) (?=[A-Z0-9])")) {
            sentences.computeIfAbsent(part, any -> new ArrayList<>()).add(new Sentence(part, sentence.strip()));
        }
    }

    /** Whether a sentence of that part has these words. */
    boolean says(String part, String words) {
        boolean isSaid = false;
        for (Sentence sentence : sentences.getOrDefault(part, List.of())) {
            isSaid |= sentence.quote(words);
        }
        return isSaid;
    }

    int parts() {
        return sentences.size();
    }

    /** What is left of each sentence of which words were not quoted; what stands between two quotes need not be. */
    List<String> unquoted() {
        List<String> left = new ArrayList<>();
        for (List<Sentence> part : sentences.values()) {
            for (Sentence sentence : part) {
                String words = sentence.unquoted();
                if (words.matches("(?s).*[A-Za-z0-9].*")) {
                    left.add(sentence.part + ": " + words + "   OF   " + sentence.words);
                }
            }
        }
        return left;
    }
}
