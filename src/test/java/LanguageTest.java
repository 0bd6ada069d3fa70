import java.io.IOException;
import java.nio.file.Files;
import java.nio.file.Path;
import java.util.regex.Matcher;
import java.util.regex.Pattern;

/** Those rules of ../shared/LANGUAGE.md that can be seen from the words of the source. */
public final class LanguageTest {
    private static final Check check = new Check("LanguageTest");

    private static final String[] RULED_OUT = {
        "\\bpackage\\b", "\\bimport\\b", "->", "::", "\\bfinally\\b", "\\btry\\b", "\\bcatch\\b",
        "\\bsynchronized\\b", "\\bassert\\b", "\\brecord\\s+[A-Z]", "\\bprotected\\b", "\\bstatic\\s*\\{",
        "\\bObject\\b", "\\bfloat\\b", "\\bdouble\\b", "Exact\\b", "\"\\s*\\+", "\\+\\s*\"",
        "\\bhashCode\\b", "\\btoString\\b", "\\bSystem\\b", "\\bwhile\\s*\\(true\\)", "[^\\x00-\\x7e]",
    };

    public static void main(String[] args) throws IOException {
        String source = Files.readString(Path.of("src/main/java/HeadwayDeep.java"));
        for (String words : RULED_OUT) {
            check.same("what is found of " + words, found(words, source), 0);
        }
        check.same("what is thrown and not allowed",
            found("\\bthrow\\b(?! new Illegal(Argument|State)Exception\\(\"| new IndexOutOfBoundsException\\(\")",
                source), 0);
        keepsMethodsShort(source);
        check.end();
    }

    private static int found(String words, String source) {
        Matcher matcher = Pattern.compile(words).matcher(source);
        int count = 0;
        while (matcher.find()) {
            count++;
        }
        return count;
    }

    private static void keepsMethodsShort(String source) {
        int lines = 0;
        int longest = 0;
        for (String line : source.split("\n")) {
            lines = line.isBlank() ? 0 : lines + 1;
            longest = Math.max(longest, lines);
        }
        check.same("lines without a blank one between", longest <= 60, true);
    }
}
