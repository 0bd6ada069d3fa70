import com.sun.source.tree.ClassTree;
import com.sun.source.tree.CompilationUnitTree;
import com.sun.source.tree.MethodTree;
import com.sun.source.tree.Tree;
import com.sun.source.util.JavacTask;
import com.sun.source.util.TreePath;
import com.sun.source.util.TreePathScanner;
import com.sun.source.util.Trees;
import java.io.IOException;
import java.net.URI;
import java.util.ArrayList;
import java.util.List;
import javax.lang.model.element.Element;
import javax.lang.model.element.TypeElement;
import javax.lang.model.type.TypeMirror;
import javax.tools.Diagnostic;
import javax.tools.DiagnosticCollector;
import javax.tools.JavaCompiler;
import javax.tools.JavaFileObject;
import javax.tools.SimpleJavaFileObject;
import javax.tools.ToolProvider;

/**
 * A source as the compiler reads it, and which rules of ../shared/LANGUAGE.md it breaks. Where a rule leaves more
 * than the class needs (doubles, lists, recursion with a guard, objects made in loops), what looks for it here
 * is stricter than the rule.
 */
final class Language {
    final Trees trees;
    final CompilationUnitTree unit;
    final List<String> names;
    private final List<String> broken = new ArrayList<>();

    private Language(Trees trees, CompilationUnitTree unit, List<String> names) {
        this.trees = trees;
        this.unit = unit;
        this.names = names;
    }

    /** The rules that a source breaks, each as "rule 1: why"; the names are those of the document's calls. */
    static List<String> broken(String source, List<String> names) throws IOException {
        Language language = read(source, names);
        if (language.broken.isEmpty()) {
            new MemberRules(language).scan(language.unit, null);
            new WordRules(language).scan(language.unit, null);
            new CallRules(language).scan(language.unit, null);
        }
        return language.broken;
    }

    private static Language read(String source, List<String> names) throws IOException {
        JavaCompiler compiler = ToolProvider.getSystemJavaCompiler();
        DiagnosticCollector<JavaFileObject> found = new DiagnosticCollector<>();
        JavaFileObject file = new SimpleJavaFileObject(URI.create("string:///HeadwayDeep.java"),
                JavaFileObject.Kind.SOURCE) {
            @Override
            public CharSequence getCharContent(boolean ignoreErrors) {
                return source;
            }
        };
        JavacTask task = (JavacTask) compiler.getTask(null, null, found, List.of("-proc:none"), null, List.of(file));
        CompilationUnitTree unit = task.parse().iterator().next();
        task.analyze();
        Language language = new Language(Trees.instance(task), unit, names);
        for (Diagnostic<?> diagnostic : found.getDiagnostics()) {
            if (diagnostic.getKind() == Diagnostic.Kind.ERROR) {
                language.broken.add("does not compile: " + diagnostic);
            }
        }
        for (int i = 0; i < source.length(); i++) {
            if (source.charAt(i) > 126) {
                language.breaks(4, "a sign above 126");
            }
        }
        return language;
    }

    void breaks(int rule, String why) {
        broken.add("rule " + rule + ": " + why);
    }

    void breaksIf(boolean isSo, int rule, String why) {
        if (isSo) {
            breaks(rule, why);
        }
    }

    Element element(TreePath path) {
        return trees.getElement(path);
    }

    TypeMirror type(TreePath path) {
        return trees.getTypeMirror(path);
    }

    /** The lines from the first one of a tree to its last one. */
    long lines(Tree tree) {
        long start = trees.getSourcePositions().getStartPosition(unit, tree);
        long end = trees.getSourcePositions().getEndPosition(unit, tree);
        return unit.getLineMap().getLineNumber(end) - unit.getLineMap().getLineNumber(start) + 1;
    }

    /** Whether what is declared there stands in the file itself. */
    boolean isOwn(Element element) {
        Element outer = element;
        while (outer != null && !(outer instanceof TypeElement && outer.getEnclosingElement() != null
                && !(outer.getEnclosingElement() instanceof TypeElement) && !isInMethod(outer))) {
            outer = outer.getEnclosingElement();
        }
        return outer != null && outer.getSimpleName().contentEquals("HeadwayDeep");
    }

    private static boolean isInMethod(Element element) {
        switch (element.getEnclosingElement().getKind()) {
            case METHOD: case CONSTRUCTOR: case FIELD: case LOCAL_VARIABLE: return true;
            default: return false;
        }
    }

    /** A method's name with its class's, as a call graph needs it. */
    static String told(Element method) {
        return method.getEnclosingElement().getSimpleName() + "." + method;
    }

    static MethodTree methodOf(TreePath path) {
        for (TreePath at = path; at != null; at = at.getParentPath()) {
            if (at.getLeaf() instanceof MethodTree) {
                return (MethodTree) at.getLeaf();
            }
            if (at.getLeaf() instanceof ClassTree) {
                return null;
            }
        }
        return null;
    }

    static boolean isInLoop(TreePath path) {
        for (TreePath at = path; at != null && !(at.getLeaf() instanceof MethodTree); at = at.getParentPath()) {
            switch (at.getLeaf().getKind()) {
                case FOR_LOOP: case WHILE_LOOP: case DO_WHILE_LOOP: case ENHANCED_FOR_LOOP: return true;
                default: break;
            }
        }
        return false;
    }

    /** What the three kinds of rules have in common. */
    abstract static class Rules extends TreePathScanner<Void, Void> {
        final Language language;

        Rules(Language language) {
            this.language = language;
        }

        void breaksIf(boolean isSo, int rule, String why) {
            language.breaksIf(isSo, rule, why);
        }

        Element element(Tree tree) {
            return language.element(new TreePath(getCurrentPath(), tree));
        }

        TypeMirror type(Tree tree) {
            return language.type(new TreePath(getCurrentPath(), tree));
        }

        boolean isOwn(Element element) {
            return language.isOwn(element);
        }
    }
}
