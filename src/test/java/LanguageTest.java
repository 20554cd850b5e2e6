import com.sun.source.tree.BinaryTree;
import com.sun.source.tree.ClassTree;
import com.sun.source.tree.CompilationUnitTree;
import com.sun.source.tree.ExpressionTree;
import com.sun.source.tree.ForLoopTree;
import com.sun.source.tree.ImportTree;
import com.sun.source.tree.LiteralTree;
import com.sun.source.tree.MemberSelectTree;
import com.sun.source.tree.MethodInvocationTree;
import com.sun.source.tree.MethodTree;
import com.sun.source.tree.NewArrayTree;
import com.sun.source.tree.NewClassTree;
import com.sun.source.tree.ThrowTree;
import com.sun.source.tree.Tree;
import com.sun.source.tree.Tree.Kind;
import com.sun.source.tree.TypeCastTree;
import com.sun.source.tree.VariableTree;
import com.sun.source.tree.WhileLoopTree;
import com.sun.source.util.JavacTask;
import com.sun.source.util.TreePath;
import com.sun.source.util.TreePathScanner;
import com.sun.source.util.Trees;
import java.io.IOException;
import java.nio.file.Path;
import java.util.ArrayList;
import java.util.EnumSet;
import java.util.LinkedHashMap;
import java.util.List;
import java.util.Map;
import java.util.Set;
import java.util.TreeSet;
import javax.lang.model.element.Element;
import javax.lang.model.element.Modifier;
import javax.lang.model.element.VariableElement;
import javax.tools.JavaCompiler;
import javax.tools.StandardJavaFileManager;
import javax.tools.ToolProvider;

/**
 * The rules of ../shared/LANGUAGE.md, as far as the source shows whether they are kept. Of what a rule leaves free,
 * this test allows only what the class makes use of; when the class comes to need more, the test is to be widened.
 */
public final class LanguageTest extends TreePathScanner<Void, Void> {
    private static final Check CHECK = new Check();
    private static final Path CLASS = Path.of("src/main/java/WareHall.java");
    private static final int MOST_CLASSES = 12;
    private static final int MOST_FIELDS = 20;
    private static final int MOST_PARAMETERS = 7;
    private static final int MOST_LINES = 60;
    private static final int DEEPEST_CALLS = 8;
    private static final Set<Kind> KINDS = EnumSet.of(Kind.AND, Kind.ARRAY_ACCESS, Kind.ARRAY_TYPE, Kind.ASSIGNMENT,
            Kind.BLOCK, Kind.BOOLEAN_LITERAL, Kind.BREAK, Kind.CHAR_LITERAL, Kind.CLASS, Kind.COMPILATION_UNIT,
            Kind.CONDITIONAL_AND, Kind.CONDITIONAL_EXPRESSION, Kind.CONDITIONAL_OR, Kind.CONTINUE, Kind.DIVIDE,
            Kind.EQUAL_TO, Kind.EXPRESSION_STATEMENT, Kind.FOR_LOOP, Kind.GREATER_THAN, Kind.GREATER_THAN_EQUAL,
            Kind.IDENTIFIER, Kind.IF, Kind.IMPORT, Kind.INT_LITERAL, Kind.LEFT_SHIFT, Kind.LESS_THAN,
            Kind.LESS_THAN_EQUAL, Kind.LOGICAL_COMPLEMENT, Kind.MEMBER_SELECT, Kind.METHOD, Kind.METHOD_INVOCATION,
            Kind.MINUS, Kind.MINUS_ASSIGNMENT, Kind.MODIFIERS, Kind.MULTIPLY, Kind.NEW_ARRAY, Kind.NEW_CLASS,
            Kind.NOT_EQUAL_TO, Kind.PARENTHESIZED, Kind.PLUS, Kind.PLUS_ASSIGNMENT, Kind.POSTFIX_DECREMENT,
            Kind.POSTFIX_INCREMENT, Kind.PRIMITIVE_TYPE, Kind.REMAINDER, Kind.RETURN, Kind.RIGHT_SHIFT,
            Kind.STRING_LITERAL, Kind.THROW, Kind.TYPE_CAST, Kind.UNARY_MINUS, Kind.VARIABLE, Kind.WHILE_LOOP);
    private static final Set<String> EXCEPTIONS = Set.of("IllegalStateException", "IllegalArgumentException",
            "IndexOutOfBoundsException", "ArithmeticException", "UnsupportedOperationException",
            "NoSuchElementException", "RuntimeException");
    private static final Set<String> LIBRARY = Set.of("java.lang.Math.min", "java.lang.Math.max",
            "java.lang.System.arraycopy");

    private final CompilationUnitTree unit;
    private final Trees trees;
    private final Set<String> ownClasses = new TreeSet<>();
    /** The methods that each method calls. */
    private final Map<String, Set<String>> calls = new LinkedHashMap<>();

    private LanguageTest(CompilationUnitTree unit, Trees trees) {
        this.unit = unit;
        this.trees = trees;
    }

    public static void main(String[] args) throws IOException {
        JavaCompiler compiler = ToolProvider.getSystemJavaCompiler();
        try (StandardJavaFileManager files = compiler.getStandardFileManager(null, null, null)) {
            JavacTask task = (JavacTask) compiler.getTask(null, files, null, List.of("-proc:none"), null,
                    files.getJavaFileObjects(CLASS));
            CompilationUnitTree unit = task.parse().iterator().next();
            task.analyze();
            new LanguageTest(unit, Trees.instance(task)).lookAtAll();
        }
        CHECK.end("LanguageTest");
    }

    private void lookAtAll() {
        CHECK.same("rule 1: classes beside the one", unit.getTypeDecls().size(), 1);
        ClassTree hall = (ClassTree) unit.getTypeDecls().get(0);
        for (Tree member : hall.getMembers()) {
            if (member instanceof ClassTree inside) {
                ownClasses.add(inside.getSimpleName().toString());
            }
        }
        holds("1: no package line", unit.getPackageName() == null);
        holds("11: classes inside", ownClasses.size() < MOST_CLASSES);
        scan(unit, null);
        CHECK.about("");
        for (String method : calls.keySet()) {
            int depth = depthOf(method, new ArrayList<>());
            holds("11: calls from " + method + " are " + depth + " deep", depth <= DEEPEST_CALLS);
        }
    }

    private void holds(String rule, boolean kept) {
        CHECK.same("rule " + rule, kept, true);
    }

    private int depthOf(String method, List<String> callers) {
        holds("8: no recursion by " + callers + method, !callers.contains(method));
        if (callers.contains(method)) {
            return 0;
        }
        List<String> chain = new ArrayList<>(callers);
        chain.add(method);
        int deepest = 0;
        for (String called : calls.getOrDefault(method, Set.of())) {
            deepest = Math.max(deepest, depthOf(called, chain));
        }
        return deepest + 1;
    }

    // Where the scanner is

    private long line(long position) {
        return unit.getLineMap().getLineNumber(position);
    }

    private long start(Tree tree) {
        return trees.getSourcePositions().getStartPosition(unit, tree);
    }

    private Tree parent() {
        return getCurrentPath().getParentPath().getLeaf();
    }

    private MethodTree method() {
        for (TreePath path = getCurrentPath(); path != null; path = path.getParentPath()) {
            if (path.getLeaf() instanceof MethodTree method) {
                return method;
            }
        }
        return null;
    }

    private boolean isWhileMakingTheObject() {
        MethodTree method = method();
        return method == null || method.getName().contentEquals("<init>");
    }

    private String nameOf(Element element) {
        return element.getEnclosingElement() + "." + element.getSimpleName();
    }

    private boolean isOwn(Element element) {
        return element.getEnclosingElement().toString().matches("WareHall(\\..*)?");
    }

    // What stands there

    @Override
    public Void scan(Tree tree, Void nothing) {
        if (tree != null) {
            CHECK.about(CLASS + ":" + (start(tree) < 0 ? 0 : line(start(tree))) + ": ");
            holds("2 and 10: " + tree.getKind(), KINDS.contains(tree.getKind()));
        }
        return super.scan(tree, nothing);
    }

    @Override
    public Void visitImport(ImportTree node, Void nothing) {
        CHECK.same("rule 4: import", node.getQualifiedIdentifier().toString(), "java.util.NoSuchElementException");
        return null;
    }

    @Override
    public Void visitClass(ClassTree node, Void nothing) {
        boolean inside = ownClasses.contains(node.getSimpleName().toString());
        holds("2: a class in the file or in its class", inside || parent() == unit);
        holds("1: static inside", node.getModifiers().getFlags().contains(Modifier.STATIC) == inside);
        int fields = 0;
        for (Tree member : node.getMembers()) {
            holds("5: no initialiser block", member.getKind() != Kind.BLOCK);
            boolean constant = member instanceof VariableTree field
                    && field.getModifiers().getFlags().contains(Modifier.STATIC);
            fields += member instanceof VariableTree && !constant ? 1 : 0;
        }
        holds("11: " + fields + " fields", fields <= MOST_FIELDS);
        return super.visitClass(node, nothing);
    }

    @Override
    public Void visitMethod(MethodTree node, Void nothing) {
        long end = trees.getSourcePositions().getEndPosition(unit, node);
        long lines = end < 0 ? 0 : line(end) - line(start(node)) + 1;
        holds("11: " + lines + " lines", lines <= MOST_LINES);
        holds("11: parameters", node.getParameters().size() <= MOST_PARAMETERS);
        holds("6: not synchronized", !node.getModifiers().getFlags().contains(Modifier.SYNCHRONIZED));
        calls.putIfAbsent(nameOf(trees.getElement(getCurrentPath())), new TreeSet<>());
        return super.visitMethod(node, nothing);
    }

    @Override
    public Void visitVariable(VariableTree node, Void nothing) {
        String type = String.valueOf(node.getType());
        boolean number = type.matches("(int|long|short|byte|char|boolean|double|float)(\\[\\]){0,2}");
        holds("3: the type " + type, number || ownClasses.contains(type));
        if (node.getModifiers().getFlags().contains(Modifier.STATIC)) {
            boolean literal = node.getInitializer() != null && trees.getElement(getCurrentPath())
                    instanceof VariableElement constant && constant.getConstantValue() != null;
            holds("5: a constant", literal && node.getModifiers().getFlags().contains(Modifier.FINAL));
        }
        return super.visitVariable(node, nothing);
    }

    @Override
    public Void visitThrow(ThrowTree node, Void nothing) {
        holds("6: no throw in a constructor", !isWhileMakingTheObject());
        boolean right = node.getExpression() instanceof NewClassTree made
                && EXCEPTIONS.contains(made.getIdentifier().toString()) && made.getArguments().size() <= 1;
        holds("6: " + node, right);
        return super.visitThrow(node, nothing);
    }

    @Override
    public Void visitNewClass(NewClassTree node, Void nothing) {
        boolean own = ownClasses.contains(node.getIdentifier().toString());
        holds("12: no call makes " + node, parent() instanceof ThrowTree || own && isWhileMakingTheObject());
        return super.visitNewClass(node, nothing);
    }

    @Override
    public Void visitNewArray(NewArrayTree node, Void nothing) {
        holds("12: no call makes " + node, isWhileMakingTheObject());
        for (ExpressionTree length : node.getDimensions()) {
            holds("7: the length " + length, isConstantAbove0(length));
        }
        return super.visitNewArray(node, nothing);
    }

    private boolean isConstantAbove0(ExpressionTree expression) {
        if (expression instanceof LiteralTree literal) {
            return literal.getValue() instanceof Integer number && number > 0;
        }
        Element element = trees.getElement(new TreePath(getCurrentPath(), expression));
        return element instanceof VariableElement variable && variable.getConstantValue() instanceof Integer number
                && number > 0;
    }

    @Override
    public Void visitLiteral(LiteralTree node, Void nothing) {
        String text = String.valueOf(node.getValue());
        holds("4: signs from 1 to 127", text.chars().allMatch(sign -> sign >= 1 && sign <= 127));
        boolean ofException = parent() instanceof NewClassTree;
        holds("6: a text is that of an exception", node.getKind() != Kind.STRING_LITERAL || ofException);
        return super.visitLiteral(node, nothing);
    }

    @Override
    public Void visitMethodInvocation(MethodInvocationTree node, Void nothing) {
        Element called = trees.getElement(getCurrentPath());
        boolean superclass = node.getMethodSelect().toString().equals("super");
        holds("4: " + nameOf(called), superclass || isOwn(called) || LIBRARY.contains(nameOf(called)));
        if (isOwn(called)) {
            Element caller = trees.getElement(TreePath.getPath(unit, method()));
            calls.computeIfAbsent(nameOf(caller), name -> new TreeSet<>()).add(nameOf(called));
        }
        return super.visitMethodInvocation(node, nothing);
    }

    @Override
    public Void visitMemberSelect(MemberSelectTree node, Void nothing) {
        Element selected = trees.getElement(getCurrentPath());
        holds("4: " + node, parent() instanceof MethodInvocationTree || isOwn(selected));
        return super.visitMemberSelect(node, nothing);
    }

    @Override
    public Void visitBinary(BinaryTree node, Void nothing) {
        boolean divides = node.getKind() == Kind.DIVIDE || node.getKind() == Kind.REMAINDER;
        boolean floats = node.getLeftOperand().getKind() == Kind.TYPE_CAST;
        holds("7: the divisor of " + node, !divides || floats || isConstantAbove0(node.getRightOperand()));
        return super.visitBinary(node, nothing);
    }

    @Override
    public Void visitTypeCast(TypeCastTree node, Void nothing) {
        CHECK.same("rule 6: a cast to", node.getType().toString(), "float");
        return super.visitTypeCast(node, nothing);
    }

    @Override
    public Void visitForLoop(ForLoopTree node, Void nothing) {
        holds("9: the loop has an end", node.getCondition() != null && !node.getUpdate().isEmpty());
        return super.visitForLoop(node, nothing);
    }

    @Override
    public Void visitWhileLoop(WhileLoopTree node, Void nothing) {
        holds("9: the loop has an end", !node.getCondition().toString().equals("(true)"));
        return super.visitWhileLoop(node, nothing);
    }
}
