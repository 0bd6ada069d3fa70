import java.io.IOException;
import java.nio.file.Files;
import java.nio.file.Path;
import java.util.ArrayList;
import java.util.List;
import java.util.TreeSet;
import java.util.stream.Stream;

/** What README.md shows compiles and answers as it says, and its tables leave no call and no test out. */
public final class ReadmeTest {
    private static final Check check = new Check("ReadmeTest");
    private static final String USE = "## How to use it";
    private static final String TESTS = "## How to run its tests";

    public static void main(String[] args) throws IOException, InterruptedException {
        Readme readme = new Readme();
        rideAnswersAsShown(readme);
        rideUsesAllCalls(readme);
        tablesLeaveNothingOut(readme);
        filesAreThere(readme);
        scriptAnswersAsShown(readme);
        check.end();
    }

    /** The program is compiled and run by the commands that stand behind it. */
    private static void rideAnswersAsShown(Readme readme) throws IOException, InterruptedException {
        List<String> program = readme.block(USE, "java");
        List<String> commands = readme.block(USE, "sh");
        check.same("a program is shown", program.isEmpty(), false);
        check.same("commands are shown", commands.size(), 2);
        Scratch scratch = new Scratch("readme");
        scratch.copy("src/main/java/HeadwayDeep.java", "src/main/java/HeadwayDeep.java");
        scratch.write("Ride.java", String.join("\n", program) + "\n");
        int code = scratch.run(".", commands);
        check.same("exit code of the commands shown, which print\n" + scratch.printed() + "\n", code, 0);
        List<String> answers = scratch.printed().lines().toList();
        List<String> due = shown(program);
        check.same("lines printed", answers.size(), due.size());
        for (int i = 0; i < Math.min(answers.size(), due.size()); i++) {
            boolean isSame = answers.get(i).equals(due.get(i));
            check.same("line " + (i + 1) + " printed is " + answers.get(i) + ", shown " + due.get(i), isSame, true);
        }
    }

    /** What stands behind each line that prints, up to a ':'. */
    private static List<String> shown(List<String> program) {
        List<String> due = new ArrayList<>();
        for (String line : program) {
            if (line.contains("System.out.println(")) {
                int at = line.indexOf("// ");
                check.same("'" + line.strip() + "' shows what it prints", at > 0, true);
                due.add(line.substring(at + 3).split(":")[0].strip());
            }
        }
        return due;
    }

    private static void rideUsesAllCalls(Readme readme) throws IOException {
        String program = String.join("\n", readme.block(USE, "java"));
        for (String name : new Face().names()) {
            check.same("the program shown calls " + name, program.contains("line." + name + "("), true);
        }
        for (String thrown : List.of(PlainModel.BAD, PlainModel.NOT_NOW, PlainModel.NO_SUCH)) {
            check.same("the program shown meets " + thrown, program.contains("catch (" + thrown + " e)"), true);
            check.same("README.md tells of " + thrown, readme.says("`" + thrown + "` ("), true);
        }
    }

    private static void tablesLeaveNothingOut(Readme readme) throws IOException {
        List<String> calls = readme.named(USE);
        check.same("each call is named once: " + calls, calls.size(), new TreeSet<>(calls).size());
        check.same("the calls named are the face's: " + calls,
            new TreeSet<>(calls).equals(new TreeSet<>(new Face().names())), true);
        TreeSet<String> tests = new TreeSet<>();
        try (Stream<Path> files = Files.list(Path.of("src/test/java"))) {
            files.map(file -> file.getFileName().toString()).filter(name -> name.endsWith("Test.java"))
                .forEach(name -> tests.add(name.replace(".java", "")));
        }
        check.same("the tests named, " + readme.named(TESTS) + ", are those that are there, " + tests,
            tests.equals(new TreeSet<>(readme.named(TESTS))), true);
    }

    /** The example of how EdgeTest quotes and asks. */
    private static void scriptAnswersAsShown(Readme readme) throws IOException {
        List<String> lines = readme.block("### How `EdgeTest` works", "");
        check.same("lines of the example", lines.size(), 2);
        String[] said = lines.get(0).split("\"");
        check.same("the document says " + said[3], new Doc().says(said[1], said[3]), true);
        Probe.Asked asked = Calls.of(new HeadwayDeep());
        for (Step step : Step.all(lines.get(1).split("\"")[1])) {
            String answer = step.made(asked);
            check.same(step.text + " answered " + answer, step.due == null || answer.equals(step.due), true);
        }
    }

    private static void filesAreThere(Readme readme) throws IOException {
        check.same("the way to run the tests is one command", readme.block(TESTS, "sh").size(), 1);
        check.same("that command is sh .ci/run", readme.block(TESTS, "sh").equals(List.of("sh .ci/run")), true);
        for (String place : List.of("../shared/DOC.md", "../shared/LANGUAGE.md", "../shared/tests",
                "src/main/java/HeadwayDeep.java")) {
            check.same("README.md tells of " + place, readme.says(place), true);
            check.same(place + " is there", Files.exists(Path.of(place)), true);
        }
        try (Stream<Path> files = Files.list(Path.of("src/test/java"))) {
            for (Path file : files.filter(path -> path.toString().endsWith("Edges.java")).toList()) {
                String name = file.getFileName().toString().replace(".java", "");
                check.same("README.md tells of " + name, name.equals("Edges") || readme.says("`" + name + "`"), true);
            }
        }
    }
}
