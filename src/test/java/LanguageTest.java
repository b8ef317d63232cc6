import com.sun.source.tree.BinaryTree;
import com.sun.source.tree.BlockTree;
import com.sun.source.tree.ClassTree;
import com.sun.source.tree.MethodInvocationTree;
import com.sun.source.tree.MethodTree;
import com.sun.source.tree.NewArrayTree;
import com.sun.source.tree.NewClassTree;
import com.sun.source.tree.SwitchTree;
import com.sun.source.tree.Tree;
import com.sun.source.tree.VariableTree;
import com.sun.source.util.TreePathScanner;
import java.io.IOException;
import java.util.EnumSet;
import java.util.HashSet;
import java.util.Set;
import javax.lang.model.element.Element;
import javax.lang.model.element.Modifier;

/** What of LANGUAGE.md can be told from the source, as the compiler reads it; loops and calls have tests of their own. */
public final class LanguageTest extends TreePathScanner<Void, Void> {
    private static final Check check = new Check("LanguageTest");

    // Some of these the rules would allow in part; the program does without.
    private static final Set<Tree.Kind> NOT_USED = EnumSet.of(
        Tree.Kind.PACKAGE, Tree.Kind.IMPORT, Tree.Kind.LAMBDA_EXPRESSION, Tree.Kind.MEMBER_REFERENCE, Tree.Kind.TRY,
        Tree.Kind.THROW, Tree.Kind.SYNCHRONIZED, Tree.Kind.ASSERT, Tree.Kind.INSTANCE_OF, Tree.Kind.SWITCH_EXPRESSION,
        Tree.Kind.ANNOTATION, Tree.Kind.DIVIDE, Tree.Kind.REMAINDER);
    private static final Set<String> TYPES = Set.of("void", "int", "char", "boolean", "java.lang.String", "int[]",
        "SharedSyntax.Letters[]");
    private static final Set<String> LIBRARY = Set.of("java.lang.String.length()", "java.lang.String.charAt(int)",
        "java.lang.String.indexOf(int)", "java.lang.System.arraycopy(java.lang.Object,int,java.lang.Object,int,int)");
    private static final Set<String> FACE = Set.of(
        "type", "edit", "undo", "length", "letter", "node", "child", "find", "equal", "fault", "count");

    private final Source source;
    private final Set<String> own = new HashSet<>();
    private int methods = 0;
    private boolean inConstructor = false;

    private LanguageTest(Source source) {
        this.source = source;
    }

    public static void main(String[] args) throws IOException {
        Source source = new Source();
        LanguageTest rules = new LanguageTest(source);
        for (Tree type : source.unit.getTypeDecls()) {
            rules.remember((ClassTree) type);
        }
        check.due("one class in the file", source.unit.getTypeDecls().size(), 1);
        check.due("at most twelve classes", rules.own.size() <= 12, true);
        rules.scan(source.unit, null);
        check.due("methods were found", rules.methods > 50, true);
        check.end();
    }

    private void remember(ClassTree owner) {
        own.add(source.element(owner).toString());
        for (Tree member : owner.getMembers()) {
            if (member instanceof ClassTree) {
                remember((ClassTree) member);
            }
        }
    }

    private String at(Tree tree) {
        return " in line " + source.firstLine(tree);
    }

    // Rules 2, 4, 6, 7 (nothing divides) and 13
    @Override
    public Void scan(Tree tree, Void none) {
        if (tree != null) {
            check.due("no " + tree.getKind() + at(tree), NOT_USED.contains(tree.getKind()), false);
        }
        return super.scan(tree, none);
    }

    // Rules 1, 2 and 11
    @Override
    public Void visitClass(ClassTree owner, Void none) {
        Element element = source.element(owner);
        boolean outer = getCurrentPath().getParentPath().getLeaf() == source.unit;
        Set<Modifier> due = outer
            ? EnumSet.of(Modifier.PUBLIC, Modifier.FINAL) : EnumSet.of(Modifier.PRIVATE, Modifier.STATIC, Modifier.FINAL);
        check.due("modifiers of " + element, element.getModifiers().toString(), due.toString());
        check.due("a class by itself: " + element, owner.getExtendsClause() == null && owner.getImplementsClause().isEmpty(), true);
        boolean inside = outer || getCurrentPath().getParentPath().getLeaf() instanceof ClassTree;
        check.due("no class in a method: " + element, inside, true);
        int fields = 0;
        for (Tree member : owner.getMembers()) {
            boolean field = member instanceof VariableTree;
            fields += field && !source.element(member).getModifiers().contains(Modifier.STATIC) ? 1 : 0;
            check.due("no initialiser block" + at(member), member instanceof BlockTree, false);
        }
        check.due("at most twenty fields: " + element, fields <= 20, true);
        return super.visitClass(owner, none);
    }

    // Rules 1 and 11
    @Override
    public Void visitMethod(MethodTree method, Void none) {
        methods++;
        String name = method.getName().toString();
        inConstructor = name.equals("<init>");
        boolean hidden = source.element(method).getModifiers().contains(Modifier.PRIVATE);
        check.due("no private method bears a name of the face: " + name, hidden && FACE.contains(name), false);
        check.due("at most seven parameters: " + name, method.getParameters().size() <= 7, true);
        long lines = source.lastLine(method) - source.firstLine(method) + 1;
        check.due("at most sixty lines: " + name, lines <= 60, true);
        check.due("no exceptions: " + name, method.getThrows().isEmpty() && method.getTypeParameters().isEmpty(), true);
        if (!inConstructor) {
            allowedType("what " + name + " answers", method.getReturnType());
        }
        super.visitMethod(method, none);
        inConstructor = false;
        return null;
    }

    // Rules 3 and 5
    @Override
    public Void visitVariable(VariableTree variable, Void none) {
        allowedType("type of " + variable.getName(), variable.getType());
        Set<Modifier> modifiers = source.element(variable).getModifiers();
        if (modifiers.contains(Modifier.STATIC)) {
            String type = source.type(variable.getType()).toString();
            check.due("static is final: " + variable.getName(), modifiers.contains(Modifier.FINAL), true);
            check.due("static is plain: " + variable.getName(), type.equals("int") || type.equals("java.lang.String"), true);
        }
        return super.visitVariable(variable, none);
    }

    private void allowedType(String what, Tree type) {
        String name = source.type(type).toString();
        check.due(what + " is " + name + at(type), TYPES.contains(name) || own.contains(name), true);
    }

    // Rule 4
    @Override
    public Void visitMethodInvocation(MethodInvocationTree call, Void none) {
        Element called = source.element(call.getMethodSelect());
        String owner = called.getEnclosingElement().toString();
        boolean implied = called.toString().equals("Object()");
        String name = owner + "." + called;
        check.due("calls " + name + at(call), implied || own.contains(owner) || LIBRARY.contains(name), true);
        return super.visitMethodInvocation(call, none);
    }

    // Rules 4 and 12: what a run makes is counted; so no call but the constructor makes anything.
    @Override
    public Void visitNewClass(NewClassTree made, Void none) {
        String name = source.type(made).toString();
        check.due("made is " + name + at(made), own.contains(name) && made.getClassBody() == null, true);
        check.due("made in a constructor" + at(made), inConstructor, true);
        return super.visitNewClass(made, none);
    }

    // Rules 3 and 12
    @Override
    public Void visitNewArray(NewArrayTree made, Void none) {
        check.due("one dimension" + at(made), made.getDimensions().size(), 1);
        check.due("made in a constructor" + at(made), inConstructor, true);
        return super.visitNewArray(made, none);
    }

    // Rule 10: texts are not joined by +.
    @Override
    public Void visitBinary(BinaryTree binary, Void none) {
        String type = source.type(binary).toString();
        check.due("numbers and truths alone" + at(binary), type.equals("int") || type.equals("boolean"), true);
        return super.visitBinary(binary, none);
    }

    // Rule 10: "switch on numbers and on enums"
    @Override
    public Void visitSwitch(SwitchTree choice, Void none) {
        check.due("switch on a number" + at(choice), source.type(choice.getExpression()).toString(), "int");
        return super.visitSwitch(choice, none);
    }
}
