import java.io.IOException;
import java.nio.file.Files;
import java.util.List;

/**
 * The rules of ../shared/LANGUAGE.md: the class breaks none of them, and with one line more, or in place of another
 * one, that breaks a rule, it is told. Rule 7 is asked by AnyCallsTest and EdgeTest, too, rule 13 by WholeEdges.
 */
public final class LanguageTest {
    private static final Check check = new Check("LanguageTest");
    private static final String CLASS = "public final class HeadwayDeep {";
    private static final String CONSTRUCTOR = "public HeadwayDeep() {";

    private final String source;
    private final List<String> names;

    private LanguageTest(String source, List<String> names) {
        this.source = source;
        this.names = names;
    }

    public static void main(String[] args) throws IOException {
        LanguageTest test = new LanguageTest(Files.readString(Face.SOURCE), new Face().names());
        test.breaksNone();
        test.rulesOfTheFace();
        test.rulesOfClassesAndTypes();
        test.rulesOfTheLibrary();
        test.rulesOfExceptions();
        test.rulesOfThrowing();
        test.rulesOfLoops();
        test.rulesOfSizes();
        test.rulesOfWhatIsMade();
        check.end();
    }

    private void breaksNone() throws IOException {
        for (String broken : Language.broken(source, names)) {
            check.same("the class breaks " + broken, true, false);
        }
        for (String harmless : List.of(
                "private int extra() { return 7 / 2; }",
                "private final int[][] extra = new int[3][4];",
                "private static final int[] EXTRA = {1, 2};",
                "private int extra(int a) { while (a > 0) { a--; } return Math.floorMod(a, 7); }",
                "private boolean extra(String a, String b) { return a.equals(b); }",
                "private interface Extra { int asked(); } private Extra extra;",
                "private void one(int a) { if (a > 0) { throw new IllegalStateException(\"no\"); } }"
                    + "private int two() { try { one(1); return 1; } "
                    + "catch (IllegalStateException e) { return 0; } }")) {
            List<String> broken = Language.broken(withMember(harmless), names);
            check.same(harmless + " breaks " + broken, broken.isEmpty(), true);
        }
    }

    private String withMember(String member) {
        return source.substring(0, source.lastIndexOf('}')) + member + "\n}\n";
    }

    /** With that member more, the class is to break that rule. */
    private void breaks(int rule, String member) throws IOException {
        tells(rule, member, withMember(member));
    }

    private void breaksWith(int rule, String words, String others) throws IOException {
        check.same("the source has '" + words + "'", source.contains(words), true);
        tells(rule, others, source.replace(words, others));
    }

    private void tells(int rule, String what, String changed) throws IOException {
        List<String> broken = Language.broken(changed, names);
        boolean isTold = broken.stream().anyMatch(told -> told.startsWith("rule " + rule + ":"));
        check.same("rule " + rule + " is broken by " + what + ", told are " + broken, isTold, true);
    }

    private void rulesOfTheFace() throws IOException {
        breaksWith(1, CLASS, "package deep;\n" + CLASS);
        breaksWith(1, CLASS, "public class HeadwayDeep {");
        breaksWith(1, CLASS, "final class HeadwayDeep {");
        breaksWith(1, CLASS, "final class Other { }\n" + CLASS);
        breaks(1, "public int extra() { return 1; }");
        breaks(1, "protected int extra() { return 1; }");
        breaks(1, "int extra() { return 1; }");
        breaks(1, "public int extra;");
        breaks(1, "int extra;");
        breaks(1, "public static final int EXTRA = 1;");
        breaks(1, "public static class Extra { }");
        breaks(1, "protected static class Extra { }");
        breaks(1, "private class Extra { }");
        breaks(1, "private int speed(int a, int b) { return a + b; }");
        breaks(1, "private static final class Extra { private int record() { return 1; } }");
    }

    private void rulesOfClassesAndTypes() throws IOException {
        breaks(2, "private interface Extra { int asked(int a); } private final Extra extra = a -> a + 1;");
        breaks(2, "private interface Extra { int asked(); } private final Extra extra = this::asked;"
            + "private int asked() { return 1; }");
        breaks(2, "private int extra() { class Local { int a; } return new Local().a; }");
        breaks(3, "private double extra;");
        breaks(3, "private float extra;");
        breaks(3, "private boolean extra(int a) { return a * 0.5 > 1; }");
        breaks(3, "private Object extra;");
        breaks(3, "private Integer extra;");
        breaks(3, "private Train[][] extra;");
        breaks(3, "private int[][][] extra;");
        breaks(3, "private java.util.Map<String, String> extra;");
        breaks(3, "private Object extra() { return null; }");
        breaks(3, "private char extra() { return '\\u0100'; }");
        breaks(5, "private static int extra;");
        breaks(5, "private static final Train EXTRA = null;");
        breaks(5, "private static final int[] EXTRA = new int[3];");
        breaks(5, "private static final boolean[] EXTRA = {true};");
        breaks(5, "static { }");
    }

    private void rulesOfTheLibrary() throws IOException {
        breaksWith(4, CLASS, "import java.util.ArrayList;\n" + CLASS);
        breaks(4, "private int extra() { return Math.addExact(1, 2); }");
        breaks(4, "private int extra() { return (int) Math.sqrt(4); }");
        breaks(4, "private int extra() { return Integer.MAX_VALUE; }");
        breaks(4, "private int extra() { return Integer.parseInt(\"1\"); }");
        breaks(4, "private String extra() { return String.valueOf(1); }");
        breaks(4, "private boolean extra(String a) { return a.startsWith(\"a\"); }");
        breaks(4, "private void extra() { System.out.println(1); }");
        breaks(4, "private String extra() { return \"\u00e9\"; }");
        breaks(4, "private String extra() { return \"\\0\"; }");
        // Rule 13: neither a clock, nor chance, nor a thread, nor a file stands in the library of rule 4.
        breaks(4, "private long extra() { return System.nanoTime(); }");
        breaks(4, "private long extra() { return System.currentTimeMillis(); }");
        breaks(4, "private int extra() { return new java.util.Random(1).nextInt(); }");
        breaks(4, "private int extra() { return System.identityHashCode(this); }");
        breaks(4, "private boolean extra() { return new java.io.File(\"a\").exists(); }");
        breaks(4, "private void extra() { new Thread().start(); }");
        breaks(4, "private String extra() { return System.getenv(\"A\"); }");
    }

    private void rulesOfExceptions() throws IOException {
        breaks(6, "private void extra() { throw new AssertionError(); }");
        breaks(6, "private void extra() { throw new ArrayIndexOutOfBoundsException(); }");
        breaks(6, "private void extra(String a) { throw new IllegalStateException(a); }");
        breaks(6, "private void extra(IllegalStateException a) { throw a; }");
        breaksWith(6, CONSTRUCTOR, CONSTRUCTOR + "if (NONE < 0) { throw new IllegalStateException(); }");
        breaks(6, "private static class Extra extends RuntimeException { static final long serialVersionUID = 1; }");
        breaks(6, "private synchronized void extra() { }");
        breaks(6, "private void extra() { synchronized (this) { tick++; } }");
        breaks(6, "private void extra() { assert tick >= 0; }");
        breaks(6, "private static class Extra { public String toString() { return \"\"; } }");
        breaks(6, "private static class Extra { public int hashCode() { return 1; } }");
        breaks(6, "private static class Extra { public boolean equals(Object a) { return true; } }");
        breaks(4, "private boolean extra(Train a, Train b) { return a.equals(b); }");
        breaks(6, "private boolean extra(String a, String b) { return a == b; }");
        breaks(6, "private boolean extra(Integer a, Integer b) { return a != b; }");
    }

    private void rulesOfThrowing() throws IOException {
        breaks(6, "private int extra() { try { return pass(1); } finally { tick++; } }");
        breaks(6, "private int extra() { try { return pass(1); } catch (Exception e) { return 0; } }");
        breaks(6, "private int extra() { try { return pass(1); } catch (RuntimeException e) { return 0; } }");
        breaks(6, "private int extra() { try { return pass(1); } catch (NullPointerException e) { return 0; } }");
        breaks(6, "private int extra() { try { return pass(1); } "
            + "catch (IllegalStateException e) { return e.getMessage() == null ? 1 : 0; } }");
        breaks(6, "private int extra() { try { if (tick > 0) { throw new IllegalStateException(); } return 1; } "
            + "catch (IllegalStateException e) { return 0; } }");
        breaks(7, "private int extra(int a) { return 7 / a; }");
        breaks(7, "private int extra(int a) { return 7 % a; }");
        breaks(7, "private int extra(int a) { int b = 7; b /= a; return b; }");
        breaks(7, "private int extra(int a) { int[] made = new int[a]; return made.length; }");
        breaks(7, "private static class A { } private static class B extends A { }"
            + "private B extra(A a) { return (B) a; }");
    }

    private void rulesOfLoops() throws IOException {
        breaks(8, "private int extra(int a) { return a > 0 ? extra(a - 1) : 0; }");
        breaks(8, "private int one(int a) { return a > 0 ? two(a) : 0; }"
            + "private int two(int a) { return one(a - 1); }");
        breaks(9, "private void extra() { for (;;) { tick++; } }");
        breaks(9, "private void extra() { while (true) { tick++; } }");
        breaks(9, "private void extra(int a) { while (a > 0) { tick++; } }");
        breaks(9, "private void extra(int a) { do { tick++; } while (a > 0); }");
        breaks(9, "private void extra(int a) { for (int i = 0; a > 0; i++) { tick++; } }");
        breaks(9, "private void extra(int a) { for (int i = 0; i < a || a > 0; i++) { tick++; } }");
        breaks(9, "private void extra(int a) { for (int i = 0; i < a; i++) { i--; } }");
        breaks(10, "private String extra(String a) { return a + \"b\"; }");
        breaks(10, "private String extra(String a) { a += \"b\"; return a; }");
        breaks(10, "private int extra(String a) { switch (a) { case \"b\": return 1; default: return 2; } }");
    }

    private void rulesOfSizes() throws IOException {
        breaks(11, "private int extra(int a, int b, int c, int d, int e, int f, int g, int h) { return a; }");
        breaks(11, "private int extra() { int a = 0;\n" + "a++;\n".repeat(60) + "return a; }");
        StringBuilder deep = new StringBuilder("private int extra9() { return 1; }");
        for (int i = 8; i > 0; i--) {
            deep.append("private int extra").append(i).append("() { return extra").append(i + 1).append("(); }");
        }
        breaks(11, deep.toString());
        StringBuilder classes = new StringBuilder();
        StringBuilder fields = new StringBuilder("private static class Extra { ");
        for (int i = 0; i < 12; i++) {
            classes.append("private static class Extra").append(i).append(" { }");
        }
        for (int i = 0; i < 21; i++) {
            fields.append("int a").append(i).append("; ");
        }
        breaks(11, classes.toString());
        breaks(11, fields.append('}').toString());
    }

    private void rulesOfWhatIsMade() throws IOException {
        breaks(12, "private void extra() { for (int i = 0; i < 3; i++) { beacons[0] = new Beacon(i); } }");
        breaks(12, "private void extra() { int[] a; for (int i = 0; i < 3; i++) { a = new int[3]; } }");
        breaks(12, "private void extra(java.util.List<Train> a) { for (Train b : a) { b.speed++; } }");
        breaks(12, "private enum Extra { A } private int extra() { return Extra.values().length; }");
        breaksWith(12, CONSTRUCTOR, CONSTRUCTOR + " tick = wayOf(0); } private static int wayOf(int a) { return a;");
        // Whatever is made is made by a call that adds something: a line is never asked for room by the other ones.
        breaksWith(12, "int was = lineSpeed;", "int was = lineSpeed; beacons[0] = new Beacon(1);");
        breaksWith(12, "countHolding();", "countHolding(); beacons[0] = new Beacon(1);");
    }
}
