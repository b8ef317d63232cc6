import com.sun.source.tree.BinaryTree;
import com.sun.source.tree.DoWhileLoopTree;
import com.sun.source.tree.ExpressionTree;
import com.sun.source.tree.ForLoopTree;
import com.sun.source.tree.IdentifierTree;
import com.sun.source.tree.MemberSelectTree;
import com.sun.source.tree.MethodInvocationTree;
import com.sun.source.tree.MethodTree;
import com.sun.source.tree.NewClassTree;
import com.sun.source.tree.Tree;
import com.sun.source.tree.UnaryTree;
import com.sun.source.tree.WhileLoopTree;
import com.sun.source.util.TreePathScanner;
import com.sun.source.util.TreeScanner;
import java.io.IOException;
import java.util.EnumSet;
import java.util.HashMap;
import java.util.HashSet;
import java.util.Map;
import java.util.Set;
import java.util.TreeMap;
import java.util.TreeSet;
import javax.lang.model.element.Element;
import javax.lang.model.element.Modifier;

/** LANGUAGE.md, rules 8, 9 and 11: how deep calls go, which of them come back to themselves, and that every loop ends. */
public final class RecursionTest extends TreePathScanner<Void, Void> {
    private static final Check check = new Check("RecursionTest");
    private static final Set<Tree.Kind> COMPARING = EnumSet.of(
        Tree.Kind.LESS_THAN, Tree.Kind.LESS_THAN_EQUAL, Tree.Kind.GREATER_THAN, Tree.Kind.GREATER_THAN_EQUAL);
    // Depth 0 to 6 of statements, and as many of operands.
    private static final int LEVELS = 7;

    private final Source source;
    private final Map<String, Set<String>> calls = new TreeMap<>();
    private final Map<String, MethodTree> methods = new HashMap<>();
    private final Map<String, Integer> deepest = new HashMap<>();
    private String caller = "";
    private int loops = 0;

    private RecursionTest(Source source) {
        this.source = source;
    }

    public static void main(String[] args) throws IOException {
        RecursionTest test = new RecursionTest(new Source());
        test.scan(test.source.unit, null);
        check.due("loops were found", test.loops > 20, true);
        check.due("calls were found", test.calls.size() > 50, true);
        test.atMostEightDeep();
        test.recursion();
        check.end();
    }

    private static String nameOf(Element method) {
        return method.getEnclosingElement() + "." + method;
    }

    @Override
    public Void visitMethod(MethodTree method, Void none) {
        caller = nameOf(source.element(method));
        calls.putIfAbsent(caller, new TreeSet<>());
        methods.put(caller, method);
        super.visitMethod(method, none);
        caller = "";
        return null;
    }

    @Override
    public Void visitMethodInvocation(MethodInvocationTree call, Void none) {
        goesTo(source.element(call.getMethodSelect()));
        return super.visitMethodInvocation(call, none);
    }

    @Override
    public Void visitNewClass(NewClassTree made, Void none) {
        goesTo(source.element(made));
        return super.visitNewClass(made, none);
    }

    private void goesTo(Element called) {
        check.due("a call stands in a method: " + called, caller.isEmpty(), false);
        if (!caller.isEmpty() && called.getEnclosingElement().toString().startsWith("SharedSyntax")) {
            calls.get(caller).add(nameOf(called));
        }
    }

    private Set<String> reached(String from) {
        Set<String> found = new TreeSet<>();
        addReached(from, found);
        return found;
    }

    private void addReached(String from, Set<String> found) {
        for (String called : calls.get(from)) {
            if (found.add(called)) {
                addReached(called, found);
            }
        }
    }

    /** The methods that call one another with this one; it alone if there is none. */
    private Set<String> circle(String method) {
        Set<String> found = new TreeSet<>();
        found.add(method);
        for (String other : reached(method)) {
            if (reached(other).contains(method)) {
                found.add(other);
            }
        }
        return found;
    }

    // Rule 11: "calls that are no recursion go at most eight deep"
    private void atMostEightDeep() {
        for (String method : calls.keySet()) {
            check.due("at most eight deep: " + method + " goes " + depth(method), depth(method) <= 8, true);
        }
    }

    /** How many calls stand open below each other, where those that call one another count as one. */
    private int depth(String method) {
        if (deepest.containsKey(method)) {
            return deepest.get(method);
        }
        Set<String> circle = circle(method);
        int below = 0;
        for (String inside : circle) {
            for (String called : calls.get(inside)) {
                below = circle.contains(called) ? below : Math.max(below, depth(called));
            }
        }
        deepest.put(method, below + 1);
        return below + 1;
    }

    // Rule 8: "private methods that call one another .. the depth is carried as an argument .. under 300"
    private void recursion() {
        Set<String> recursive = new TreeSet<>();
        int open = 8;
        Set<String> counted = new HashSet<>();
        for (String method : calls.keySet()) {
            if (reached(method).contains(method)) {
                recursive.add(method.replaceFirst("^SharedSyntax\\.\\w+\\.", ""));
                Element element = source.element(methods.get(method));
                check.due("private: " + method, element.getModifiers().contains(Modifier.PRIVATE), true);
                check.due("carries the depth: " + method, methods.get(method).getParameters().size(), 1);
                open += counted.add(circle(method).toString()) ? LEVELS * circle(method).size() : 0;
            }
        }
        check.due("the recursive methods", String.join(" ", recursive), "block(int) expression(int) ifStatement(int) "
            + "list(int) negative(int) operand(int) parentheses(int) part(int) statement(int) whileStatement(int)");
        check.due("calls that stand open at once: at most " + open, open < 300, true);
    }

    @Override
    public Void visitForLoop(ForLoopTree loop, Void none) {
        loopEnds(loop, loop.getCondition());
        return super.visitForLoop(loop, none);
    }

    @Override
    public Void visitWhileLoop(WhileLoopTree loop, Void none) {
        loopEnds(loop, loop.getCondition());
        return super.visitWhileLoop(loop, none);
    }

    @Override
    public Void visitDoWhileLoop(DoWhileLoopTree loop, Void none) {
        loopEnds(loop, loop.getCondition());
        return super.visitDoWhileLoop(loop, none);
    }

    // Rule 9: "a counter against a bound": some name that is compared in the condition is counted up or down in the loop.
    private void loopEnds(Tree loop, ExpressionTree condition) {
        loops++;
        Set<String> compared = new TreeSet<>();
        new TreeScanner<Void, Void>() {
            @Override
            public Void visitBinary(BinaryTree binary, Void none) {
                if (COMPARING.contains(binary.getKind())) {
                    addName(binary.getLeftOperand(), compared);
                    addName(binary.getRightOperand(), compared);
                }
                // What stands behind || bounds nothing.
                return binary.getKind() == Tree.Kind.CONDITIONAL_OR ? null : super.visitBinary(binary, none);
            }
        }.scan(condition, null);
        Set<String> counted = counted(loop);
        counted.retainAll(compared);
        check.due("a counter against a bound in line " + source.firstLine(loop), counted.isEmpty(), false);
    }

    private static void addName(ExpressionTree tree, Set<String> names) {
        if (tree instanceof IdentifierTree || tree instanceof MemberSelectTree) {
            names.add(tree.toString());
        }
    }

    private static Set<String> counted(Tree loop) {
        Set<String> names = new TreeSet<>();
        new TreeScanner<Void, Void>() {
            @Override
            public Void visitUnary(UnaryTree unary, Void none) {
                boolean counts = EnumSet.of(Tree.Kind.POSTFIX_INCREMENT, Tree.Kind.POSTFIX_DECREMENT,
                    Tree.Kind.PREFIX_INCREMENT, Tree.Kind.PREFIX_DECREMENT).contains(unary.getKind());
                if (counts) {
                    addName(unary.getExpression(), names);
                }
                return super.visitUnary(unary, none);
            }
        }.scan(loop, null);
        return names;
    }
}
