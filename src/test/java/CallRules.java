import com.sun.source.tree.AssignmentTree;
import com.sun.source.tree.BinaryTree;
import com.sun.source.tree.CompilationUnitTree;
import com.sun.source.tree.CompoundAssignmentTree;
import com.sun.source.tree.DoWhileLoopTree;
import com.sun.source.tree.ExpressionTree;
import com.sun.source.tree.ForLoopTree;
import com.sun.source.tree.IdentifierTree;
import com.sun.source.tree.MethodInvocationTree;
import com.sun.source.tree.MethodTree;
import com.sun.source.tree.NewArrayTree;
import com.sun.source.tree.NewClassTree;
import com.sun.source.tree.ThrowTree;
import com.sun.source.tree.Tree;
import com.sun.source.tree.UnaryTree;
import com.sun.source.tree.WhileLoopTree;
import com.sun.source.util.TreeScanner;
import java.util.ArrayDeque;
import java.util.Deque;
import java.util.List;
import java.util.Map;
import java.util.Set;
import java.util.TreeMap;
import java.util.TreeSet;
import javax.lang.model.element.Element;

/** How methods call one another, and how loops end: rules 8, 9, 11 and 12. */
final class CallRules extends Language.Rules {
    private static final int MOST_DEPTH = 8;
    /** The calls that may make objects: those that add something, at most 27 times for a line. */
    private static final List<String> MAKING = List.of("platform", "beacon", "zone", "train");
    private static final Set<Tree.Kind> COMPARING = Set.of(Tree.Kind.LESS_THAN, Tree.Kind.LESS_THAN_EQUAL,
        Tree.Kind.GREATER_THAN, Tree.Kind.GREATER_THAN_EQUAL, Tree.Kind.NOT_EQUAL_TO);

    private final Map<String, Set<String>> calls = new TreeMap<>();
    private final Set<String> makers = new TreeSet<>();
    private final Deque<String> open = new ArrayDeque<>();
    private String method = "";

    CallRules(Language language) {
        super(language);
    }

    @Override
    public Void visitCompilationUnit(CompilationUnitTree unit, Void none) {
        super.visitCompilationUnit(unit, none);
        for (String first : calls.keySet()) {
            follow(first);
        }
        for (String name : language.names) {
            boolean isMaker = calls.keySet().stream()
                .anyMatch(first -> first.startsWith("HeadwayDeep." + name + "(") && makes(first));
            breaksIf(isMaker && !MAKING.contains(name), 12, name + " makes objects");
        }
        return null;
    }

    /** Each method that calls one that is open already calls itself; too many are open at once, too. */
    private void follow(String next) {
        if (open.contains(next)) {
            language.breaks(8, next + " calls itself");
            return;
        }
        open.push(next);
        breaksIf(open.size() > MOST_DEPTH, 11, "calls deeper than eight: " + open);
        for (String called : calls.getOrDefault(next, Set.of())) {
            follow(called);
        }
        open.pop();
    }

    private boolean makes(String first) {
        Set<String> seen = new TreeSet<>();
        Deque<String> left = new ArrayDeque<>(List.of(first));
        while (!left.isEmpty()) {
            String next = left.pop();
            if (makers.contains(next)) {
                return true;
            }
            if (seen.add(next)) {
                left.addAll(calls.getOrDefault(next, Set.of()));
            }
        }
        return false;
    }

    @Override
    public Void visitMethod(MethodTree told, Void none) {
        String around = method;
        method = Language.told(language.element(getCurrentPath()));
        calls.computeIfAbsent(method, any -> new TreeSet<>());
        super.visitMethod(told, none);
        method = around;
        return null;
    }

    @Override
    public Void visitMethodInvocation(MethodInvocationTree call, Void none) {
        Element called = element(call.getMethodSelect());
        if (isOwn(called) && calls.containsKey(method)) {
            calls.get(method).add(Language.told(called));
        }
        return super.visitMethodInvocation(call, none);
    }

    @Override
    public Void visitNewClass(NewClassTree made, Void none) {
        if (!(getCurrentPath().getParentPath().getLeaf() instanceof ThrowTree)) {
            makers.add(method);
        }
        return super.visitNewClass(made, none);
    }

    @Override
    public Void visitNewArray(NewArrayTree made, Void none) {
        makers.add(method);
        return super.visitNewArray(made, none);
    }

    @Override
    public Void visitForLoop(ForLoopTree loop, Void none) {
        Set<String> changed = new TreeSet<>();
        loop.getUpdate().forEach(update -> changed.addAll(changedIn(update)));
        breaksIf(!ends(loop.getCondition(), changed), 9, "an end that cannot be seen: for " + loop.getCondition());
        Set<String> changedInside = changedIn(loop.getStatement());
        breaksIf(changed.stream().anyMatch(changedInside::contains), 9, "a counter that is changed in its loop");
        return super.visitForLoop(loop, none);
    }

    @Override
    public Void visitWhileLoop(WhileLoopTree loop, Void none) {
        boolean ends = ends(loop.getCondition(), changedIn(loop.getStatement()));
        breaksIf(!ends, 9, "an end that cannot be seen: while " + loop.getCondition());
        return super.visitWhileLoop(loop, none);
    }

    @Override
    public Void visitDoWhileLoop(DoWhileLoopTree loop, Void none) {
        boolean ends = ends(loop.getCondition(), changedIn(loop.getStatement()));
        breaksIf(!ends, 9, "an end that cannot be seen: do while " + loop.getCondition());
        return super.visitDoWhileLoop(loop, none);
    }

    /** Whether a condition compares one of the variables that the loop changes, whatever else it asks. */
    private static boolean ends(ExpressionTree condition, Set<String> changed) {
        if (condition == null) {
            return false;
        }
        boolean[] found = new boolean[1];
        new TreeScanner<Void, Void>() {
            @Override
            public Void visitBinary(BinaryTree both, Void none) {
                boolean isComparing = COMPARING.contains(both.getKind());
                found[0] |= isComparing && (changed.contains(both.getLeftOperand().toString())
                    || changed.contains(both.getRightOperand().toString()));
                return both.getKind() == Tree.Kind.CONDITIONAL_OR ? null : super.visitBinary(both, none);
            }
        }.scan(condition, null);
        return found[0];
    }

    private static Set<String> changedIn(Tree tree) {
        Set<String> changed = new TreeSet<>();
        new TreeScanner<Void, Void>() {
            @Override
            public Void visitUnary(UnaryTree unary, Void none) {
                if (unary.getKind().name().endsWith("CREMENT")) {
                    add(unary.getExpression());
                }
                return super.visitUnary(unary, none);
            }

            @Override
            public Void visitAssignment(AssignmentTree assigned, Void none) {
                add(assigned.getVariable());
                return super.visitAssignment(assigned, none);
            }

            @Override
            public Void visitCompoundAssignment(CompoundAssignmentTree assigned, Void none) {
                add(assigned.getVariable());
                return super.visitCompoundAssignment(assigned, none);
            }

            private void add(ExpressionTree variable) {
                if (variable instanceof IdentifierTree) {
                    changed.add(variable.toString());
                }
            }
        }.scan(tree, null);
        return changed;
    }
}
