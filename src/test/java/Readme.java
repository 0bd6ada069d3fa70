import java.io.IOException;
import java.nio.file.Files;
import java.nio.file.Path;
import java.util.ArrayList;
import java.util.List;

/** README.md by its headings: its blocks, the lines of its tables, and its text. */
final class Readme {
    static final Path PLACE = Path.of("README.md");

    private final List<String> lines = Files.readAllLines(PLACE);

    Readme() throws IOException {
    }

    /** The lines below a heading, up to the next one. */
    private List<String> below(String heading) {
        List<String> found = new ArrayList<>();
        boolean isBelow = false;
        boolean isInBlock = false;
        for (String line : lines) {
            isInBlock ^= line.startsWith("```");
            if (!isInBlock && line.startsWith("#")) {
                isBelow = line.equals(heading);
            } else if (isBelow) {
                found.add(line);
            }
        }
        return found;
    }

    /** The lines of the only block of that language below a heading; none, if there are more such blocks. */
    List<String> block(String heading, String language) {
        List<String> found = new ArrayList<>();
        int blocks = 0;
        boolean isOpen = false;
        for (String line : below(heading)) {
            if (line.startsWith("```")) {
                isOpen = !isOpen && line.equals("```" + language);
                blocks += isOpen ? 1 : 0;
            } else if (isOpen) {
                found.add(line);
            }
        }
        return blocks == 1 ? found : List.of();
    }

    /** What stands in backquotes in the first column of the tables below a heading. */
    List<String> named(String heading) {
        List<String> found = new ArrayList<>();
        for (String line : below(heading)) {
            if (line.startsWith("| `")) {
                String column = line.substring(2, line.indexOf(" |", 2));
                found.addAll(List.of(column.replace("`", "").split(", ")));
            }
        }
        return found;
    }

    boolean says(String words) {
        return String.join(" ", lines).contains(words);
    }
}
