import java.io.IOException;
import java.lang.reflect.Member;
import java.lang.reflect.Method;
import java.lang.reflect.Modifier;
import java.nio.file.Files;
import java.nio.file.Path;
import java.util.ArrayList;
import java.util.LinkedHashMap;
import java.util.List;
import java.util.Map;
import java.util.TreeSet;
import java.util.regex.Matcher;
import java.util.regex.Pattern;

/** The face as ../shared/DOC.md tells it, and the same as the class and its source have it. */
final class Face {
    static final Path DOC = Path.of("../shared/DOC.md");
    static final Path SOURCE = Path.of("src/main/java/HeadwayDeep.java");

    private static final Pattern AHEAD = Pattern.compile("Ahead of the calls (.*) the interface says: ---- (.*)\\.");

    private final List<String> lines = new ArrayList<>();
    private final Map<String, String> sentences = new LinkedHashMap<>();
    private final Map<String, String> remarks = new LinkedHashMap<>();
    private final String source = Files.readString(SOURCE);

    Face() throws IOException {
        boolean isOfBlock = false;
        for (String line : Files.readAllLines(DOC)) {
            if (line.startsWith("```")) {
                isOfBlock = line.equals("```java");
            } else if (isOfBlock) {
                lines.add(line.strip());
            }
            Matcher ahead = AHEAD.matcher(line);
            if (ahead.matches()) {
                learnRemark(line, ahead.group(1), ahead.group(2));
            }
        }
    }

    private void learnRemark(String sentence, String calls, String remark) {
        for (String call : calls.replace("`", "").split(", ")) {
            remarks.put(call, remark);
        }
        sentences.put(sentence, remark);
    }

    /** All lines of the document's block, as they stand there. */
    List<String> lines() {
        return lines;
    }

    /** The block's methods, without "public" and ';', in their order. */
    List<String> methods() {
        List<String> methods = new ArrayList<>();
        for (String line : lines) {
            if (line.matches("public \\w+ \\w+\\(.*;")) {
                methods.add(line.substring("public ".length(), line.length() - 1));
            }
        }
        return methods;
    }

    List<String> names() {
        return methods().stream().map(Face::name).toList();
    }

    static String name(String method) {
        return method.substring(method.indexOf(' ') + 1, method.indexOf('('));
    }

    /** The sentences "Ahead of the calls ...", each with its remark. */
    Map<String, String> sentences() {
        return sentences;
    }

    /** Whether the class has that method: its types and its throws clause, in their order, and public alone. */
    boolean isOfClass(String method) {
        for (Method found : HeadwayDeep.class.getDeclaredMethods()) {
            String types = found.toString().replace("java.lang.", "").replace("HeadwayDeep.", "");
            if (types.equals("public " + withoutNames(method))) {
                return true;
            }
        }
        return false;
    }

    /** As reflection writes it: the parameters by their types alone, no space behind a comma. */
    private static String withoutNames(String method) {
        return method.replaceAll("(int|boolean) \\w+(?=[,)])", "$1").replace(", ", ",");
    }

    /** Whether the source has these words, however its lines are broken. */
    boolean isOfSource(String words) {
        return source.replaceAll("\\s+", " ").contains(words);
    }

    /** The calls ahead of which the latest remark in the source is that one, in the order of the source. */
    List<String> callsBehind(String remark) {
        List<String> calls = new ArrayList<>();
        String latest = "";
        Pattern publicCall = Pattern.compile(" {4}public \\w+ (\\w+)\\(.*");
        for (String line : source.split("\n")) {
            if (line.strip().startsWith("// ---- ")) {
                latest = line.strip().substring("// ---- ".length());
            }
            Matcher call = publicCall.matcher(line);
            if (call.matches() && latest.equals(remark)) {
                calls.add(call.group(1));
            }
        }
        return calls;
    }

    /** The calls that the document tells of that remark. */
    List<String> callsTold(String remark) {
        return names().stream().filter(name -> remark.equals(remarks.get(name))).toList();
    }

    /** Whatever of the class can be seen from outside it. */
    static TreeSet<String> seenFromOutside() {
        List<Member> members = new ArrayList<>();
        members.addAll(List.of(HeadwayDeep.class.getDeclaredMethods()));
        members.addAll(List.of(HeadwayDeep.class.getDeclaredFields()));
        members.addAll(List.of(HeadwayDeep.class.getDeclaredConstructors()));
        TreeSet<String> seen = new TreeSet<>();
        for (Member member : members) {
            if (!Modifier.isPrivate(member.getModifiers())) {
                seen.add(member.getName());
            }
        }
        return seen;
    }
}
