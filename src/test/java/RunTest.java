import java.io.IOException;
import java.util.List;

/**
 * README.md's way to run the tests, gone in a project of a few lines: it runs each test of the project and each one
 * under ../shared/tests, and fails if one fails, or if one cannot be run.
 */
public final class RunTest {
    private static final Check check = new Check("RunTest");
    private static final String CLASS = "main/src/main/java/HeadwayDeep.java";
    private static final String OWN = "main/src/test/java/OwnTest.java";
    private static final String OTHER = "main/src/test/java/OtherTest.java";
    private static final String SHARED = "shared/tests/SharedRuns.java";

    private static final String FEW_LINES = "public final class HeadwayDeep { "
        + "public boolean isSafe() { return true; } }\n";

    private final Scratch scratch = new Scratch("run");
    private final List<String> way;

    private RunTest(List<String> way) throws IOException {
        this.way = way;
    }

    public static void main(String[] args) throws IOException, InterruptedException {
        RunTest test = new RunTest(new Readme().block("## How to run its tests", "sh"));
        test.passesIfAllPass();
        test.failsIfOneFails();
        test.failsIfOneCannotBeRun();
        test.failsWithoutSharedTests();
        check.end();
    }

    private static String program(String name, String ending) {
        return "public final class " + name + " { public static void main(String[] args) { "
            + "System.out.println(\"" + name + " was run\" + new HeadwayDeep().isSafe()); " + ending + " } }\n";
    }

    private void makeAll() throws IOException {
        scratch.copy(".ci/run", "main/.ci/run");
        scratch.write(CLASS, FEW_LINES);
        scratch.write(OWN, program("OwnTest", ""));
        scratch.write(OTHER, program("OtherTest", ""));
        scratch.write(SHARED, program("SharedRuns", ""));
    }

    private int code() throws IOException, InterruptedException {
        return scratch.run("main", way);
    }

    private boolean isPrinted(String words) {
        return scratch.printed().contains(words);
    }

    private void passesIfAllPass() throws IOException, InterruptedException {
        makeAll();
        check.same("exit code, as all pass", code(), 0);
        for (String name : List.of("OwnTest", "OtherTest", "SharedRuns")) {
            check.same(name + " was run", isPrinted(name + " was runtrue"), true);
        }
        check.same("the last line, of\n" + scratch.printed(), scratch.printed().endsWith("3 passed, 0 failed\n"), true);
        check.same("what it makes is under build/", scratch.has("main/build"), true);
    }

    private void failsIfOneFails() throws IOException, InterruptedException {
        for (String file : List.of(OWN, OTHER, SHARED)) {
            String name = file.substring(file.lastIndexOf('/') + 1).replace(".java", "");
            for (String ending : List.of("System.exit(1);", "throw new IllegalStateException(\"no\");")) {
                makeAll();
                scratch.write(file, program(name, ending));
                check.same(name + " fails: it passes all the same", code() == 0, false);
                check.same(name + " fails: the others are counted", isPrinted("2 passed, 1 failed\n"), true);
                check.same(name + " fails: it is told", isPrinted("FAILED: ") && isPrinted(name + "\n"), true);
            }
        }
    }

    private void failsIfOneCannotBeRun() throws IOException, InterruptedException {
        for (String file : List.of(CLASS, OWN, SHARED)) {
            makeAll();
            scratch.write(file, "this is no Java");
            check.same(file + " does not compile: it passes all the same", code() == 0, false);
        }
    }

    private void failsWithoutSharedTests() throws IOException, InterruptedException {
        scratch.copy(".ci/run", "alone/main/.ci/run");
        scratch.write("alone/" + CLASS, FEW_LINES);
        scratch.write("alone/" + OWN, program("OwnTest", ""));
        check.same("without ../shared/tests it passes all the same", scratch.run("alone/main", way) == 0, false);
    }
}
