import java.io.IOException;
import java.nio.file.Files;
import java.nio.file.Path;
import java.util.ArrayList;
import java.util.LinkedHashMap;
import java.util.List;
import java.util.Map;

/** The sentences of ../shared/DOC.md by its parts, "Terms" and "Promise 1" to "Promise 24", and which were quoted. */
final class Doc {
    private static final Path PLACE = Path.of("../shared/DOC.md");

    private final Map<String, List<String>> sentences = new LinkedHashMap<>();
    private final List<String> unquoted = new ArrayList<>();

    Doc() throws IOException {
        String part = "";
        for (String line : Files.readAllLines(PLACE)) {
            if (line.startsWith("## ")) {
                part = line.substring(3).replaceAll(":.*", "");
            } else if (part.equals("Terms") || part.startsWith("Promise")) {
                learn(part, line);
            }
        }
    }

    private void learn(String part, String line) {
        boolean isOfTheFace = line.startsWith("Ahead of the calls");
        boolean isHeading = line.startsWith("#") || line.equals("Stops, doors");
        if (line.isBlank() || isOfTheFace || isHeading) {
            return;
        }
        for (String sentence : line.replaceFirst("^\\d\\. ", "").split("(?<=\\.) (?=[A-Z0-9])")) {
            sentences.computeIfAbsent(part, any -> new ArrayList<>()).add(sentence);
            unquoted.add(part + ": " + sentence);
        }
    }

    /** Whether a sentence of that part has these words. */
    boolean says(String part, String words) {
        boolean isSaid = false;
        for (String sentence : sentences.getOrDefault(part, List.of())) {
            if (sentence.contains(words)) {
                unquoted.remove(part + ": " + sentence);
                isSaid = true;
            }
        }
        return isSaid;
    }

    int parts() {
        return sentences.size();
    }

    List<String> unquoted() {
        return unquoted;
    }
}
