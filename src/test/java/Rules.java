import com.sun.source.tree.AssertTree;
import com.sun.source.tree.BinaryTree;
import com.sun.source.tree.BlockTree;
import com.sun.source.tree.ClassTree;
import com.sun.source.tree.CompilationUnitTree;
import com.sun.source.tree.CompoundAssignmentTree;
import com.sun.source.tree.DoWhileLoopTree;
import com.sun.source.tree.EnhancedForLoopTree;
import com.sun.source.tree.ExpressionTree;
import com.sun.source.tree.ForLoopTree;
import com.sun.source.tree.IfTree;
import com.sun.source.tree.ImportTree;
import com.sun.source.tree.LambdaExpressionTree;
import com.sun.source.tree.LiteralTree;
import com.sun.source.tree.MemberReferenceTree;
import com.sun.source.tree.MethodInvocationTree;
import com.sun.source.tree.MethodTree;
import com.sun.source.tree.NewArrayTree;
import com.sun.source.tree.NewClassTree;
import com.sun.source.tree.StatementTree;
import com.sun.source.tree.SynchronizedTree;
import com.sun.source.tree.ThrowTree;
import com.sun.source.tree.Tree;
import com.sun.source.tree.TryTree;
import com.sun.source.tree.TypeCastTree;
import com.sun.source.tree.VariableTree;
import com.sun.source.tree.WhileLoopTree;
import com.sun.source.util.JavacTask;
import com.sun.source.util.TreePath;
import com.sun.source.util.TreePathScanner;
import com.sun.source.util.Trees;
import java.io.IOException;
import java.util.ArrayList;
import java.util.HashSet;
import java.util.List;
import java.util.Map;
import java.util.Set;
import java.util.TreeMap;
import java.util.TreeSet;
import java.util.regex.Pattern;
import javax.lang.model.element.Element;
import javax.lang.model.element.ElementKind;
import javax.lang.model.element.ExecutableElement;
import javax.lang.model.element.Modifier;
import javax.lang.model.element.VariableElement;
import javax.lang.model.type.TypeKind;
import javax.lang.model.type.TypeMirror;
import javax.tools.ToolProvider;

/**
 * The rules of ../shared/LANGUAGE.md, looked up in the class as the compiler understands it. Where the class can do
 * without what a rule allows, it has to: that keeps this short. A fault is told as "rule n: .. (line m)".
 */
final class Rules extends TreePathScanner<Void, Void> {
    private static final String NAME = "PauseRegions";
    private static final Set<String> NUMBER_ARRAYS =
        Set.of("int[]", "long[]", "short[]", "byte[]", "char[]", "float[]", "double[]");
    private static final Set<String> TYPES = Set.of("int", "boolean", "float", "int[]", "boolean[]");
    /** As the compiler writes it: behind if, for, .. it puts a blank. */
    private static final Pattern CALL = Pattern.compile("\\w\\(");
    private static final int DEEPEST = 8, LONGEST = 60, MOST_CLASSES = 12, MOST_FIELDS = 20, MOST_PARAMETERS = 7;

    private final Trees trees;
    private final CompilationUnitTree unit;
    private final List<String> faults = new ArrayList<>();
    private final Map<String, Set<String>> calls = new TreeMap<>();
    private int classes;

    private Rules(Trees trees, CompilationUnitTree unit) {
        this.trees = trees;
        this.unit = unit;
    }

    /** What in that text of the class is outside the rules. */
    static List<String> faultsOf(String source) throws IOException {
        JavacTask task = (JavacTask) ToolProvider.getSystemJavaCompiler().getTask(
            null, null, d -> { }, List.of("-proc:none", "--release", "17"), null, List.of(new BrokenCopy.Source(source)));
        CompilationUnitTree unit = task.parse().iterator().next();
        task.analyze();
        Rules rules = new Rules(Trees.instance(task), unit);
        rules.lookAtText(source);
        rules.scan(unit, null);
        rules.lookAtCalls();
        return rules.faults;
    }

    private void fault(int rule, Tree where, String what) {
        long at = trees.getSourcePositions().getStartPosition(unit, where);
        faults.add("rule " + rule + ": " + what + " (line " + unit.getLineMap().getLineNumber(at) + ")");
    }

    private void require(boolean holds, int rule, Tree where, String what) {
        if (!holds) {
            fault(rule, where, what);
        }
    }

    private void lookAtText(String source) {
        require(source.chars().allMatch(c -> c == '\n' || c >= 32 && c < 127), 4, unit, "a sign that is not plain");
        require(unit.getPackageName() == null, 1, unit, "a package line");
        require(unit.getTypeDecls().size() == 1, 1, unit, "more than one class outside");
    }

    // What stands where.

    @Override
    public Void visitImport(ImportTree tree, Void v) {
        require(tree.getQualifiedIdentifier().toString().equals("java.util.Arrays"), 4, tree, "import " + tree);
        return super.visitImport(tree, v);
    }

    @Override
    public Void visitClass(ClassTree tree, Void v) {
        classes++;
        require(classes <= MOST_CLASSES, 11, tree, "too many classes");
        Set<Modifier> flags = tree.getModifiers().getFlags();
        if (isOutermost(tree)) {
            require(flags.equals(Set.of(Modifier.PUBLIC, Modifier.FINAL)), 1, tree, "not public and final");
        } else {
            require(flags.equals(Set.of(Modifier.PRIVATE, Modifier.STATIC, Modifier.FINAL)), 1, tree,
                "a class inside that is not private, static and final");
        }
        require(tree.getExtendsClause() == null && tree.getImplementsClause().isEmpty(), 2, tree, "a class above");
        long fields = tree.getMembers().stream().filter(this::isObjectField).count();
        require(fields <= MOST_FIELDS, 11, tree, "too many fields");
        for (Tree member : tree.getMembers()) {
            require(!(member instanceof BlockTree), 5, member, "an initialiser block");
        }
        return super.visitClass(tree, v);
    }

    private boolean isOutermost(ClassTree tree) {
        return tree.getSimpleName().contentEquals(NAME);
    }

    private boolean isObjectField(Tree member) {
        return member instanceof VariableTree variable
            && !variable.getModifiers().getFlags().contains(Modifier.STATIC);
    }

    @Override
    public Void visitMethod(MethodTree tree, Void v) {
        require(tree.getParameters().size() <= MOST_PARAMETERS, 11, tree, tree.getName() + " has too many parameters");
        long from = unit.getLineMap().getLineNumber(trees.getSourcePositions().getStartPosition(unit, tree));
        long to = unit.getLineMap().getLineNumber(trees.getSourcePositions().getEndPosition(unit, tree));
        require(to - from < LONGEST, 11, tree, tree.getName() + " is too long");
        require(tree.getThrows().isEmpty(), 6, tree, tree.getName() + " throws");
        calls.computeIfAbsent(nameOf(element()), name -> new TreeSet<>());
        return super.visitMethod(tree, v);
    }

    @Override
    public Void visitVariable(VariableTree tree, Void v) {
        VariableElement variable = (VariableElement) element();
        require(isAllowed(variable.asType()), 3, tree, variable + " is " + variable.asType());
        if (variable.getModifiers().contains(Modifier.STATIC)) {
            require(variable.getConstantValue() instanceof Integer, 5, tree, variable + " is static, but no constant");
        }
        return super.visitVariable(tree, v);
    }

    private boolean isAllowed(TypeMirror type) {
        String name = type.toString();
        return TYPES.contains(name) || name.startsWith(NAME + ".") && !name.endsWith("[][]");
    }

    // What is called and made.

    @Override
    public Void visitMethodInvocation(MethodInvocationTree tree, Void v) {
        Element called = element();
        if (isOwn(called)) {
            calls.computeIfAbsent(nameOf(caller()), name -> new TreeSet<>()).add(nameOf(called));
        } else {
            require(isInLibrary((ExecutableElement) called, tree), 4, tree, "a call of " + nameOf(called));
        }
        return super.visitMethodInvocation(tree, v);
    }

    private boolean isInLibrary(ExecutableElement called, MethodInvocationTree tree) {
        String of = called.getEnclosingElement().toString();
        String name = called.getSimpleName().toString();
        switch (of) {
            case "java.lang.Object":
                return called.getKind() == ElementKind.CONSTRUCTOR;
            case "java.lang.System":
                return name.equals("arraycopy") && isNumberArray(tree, 0) && isNumberArray(tree, 2);
            case "java.util.Arrays":
                return Set.of("fill", "copyOf", "copyOfRange").contains(name) && isNumberArray(tree, 0);
            case "java.lang.Integer":
            case "java.lang.Long":
            case "java.lang.Math":
                return called.getModifiers().contains(Modifier.STATIC) && !name.endsWith("Exact")
                    && called.getParameters().stream().allMatch(p -> isWhole(p.asType()));
            default:
                return false;
        }
    }

    private boolean isNumberArray(MethodInvocationTree tree, int argument) {
        return NUMBER_ARRAYS.contains(typeOf(tree.getArguments().get(argument)).toString());
    }

    private static boolean isWhole(TypeMirror type) {
        return type.getKind() == TypeKind.INT || type.getKind() == TypeKind.LONG;
    }

    /** README.md says so: no call makes an object. */
    @Override
    public Void visitNewClass(NewClassTree tree, Void v) {
        require(isMadeAtFirst(), 12, tree, "an object made behind the constructor");
        require(isOwn(element()), 4, tree, "new " + tree.getIdentifier());
        calls.computeIfAbsent(nameOf(caller()), name -> new TreeSet<>()).add(nameOf(element()));
        return super.visitNewClass(tree, v);
    }

    @Override
    public Void visitNewArray(NewArrayTree tree, Void v) {
        require(isMadeAtFirst(), 12, tree, "an array made behind the constructor");
        for (ExpressionTree length : tree.getDimensions()) {
            require(isPositive(length), 7, tree, "a length that is no constant above 0");
        }
        require(tree.getInitializers() == null, 5, tree, "an array written out");
        return super.visitNewArray(tree, v);
    }

    private boolean isMadeAtFirst() {
        Tree method = enclosing(MethodTree.class);
        return method == null || ((MethodTree) method).getReturnType() == null;
    }

    // What is reckoned.

    @Override
    public Void visitBinary(BinaryTree tree, Void v) {
        boolean divides = tree.getKind() == Tree.Kind.DIVIDE || tree.getKind() == Tree.Kind.REMAINDER;
        if (divides && isWhole(typeOf(tree))) {
            require(isPositive(tree.getRightOperand()), 7, tree, "a divisor that is no constant above 0");
        }
        if (divides && typeOf(tree).getKind() == TypeKind.FLOAT) {
            require(tree.getKind() == Tree.Kind.DIVIDE, 3, tree, "a remainder of floats");
            require(isAskedAhead(tree.getRightOperand()), 7, tree, "a divisor that no if finds above 0");
        }
        return super.visitBinary(tree, v);
    }

    private boolean isAskedAhead(ExpressionTree divisor) {
        String plain = divisor instanceof TypeCastTree cast ? cast.getExpression().toString() : divisor.toString();
        Tree asked = enclosing(IfTree.class);
        return asked != null && ((IfTree) asked).getCondition().toString().equals("(" + plain + " > 0)");
    }

    @Override
    public Void visitTypeCast(TypeCastTree tree, Void v) {
        require(typeOf(tree).getKind().isPrimitive(), 6, tree, "a cast of a reference");
        return super.visitTypeCast(tree, v);
    }

    @Override
    public Void visitCompoundAssignment(CompoundAssignmentTree tree, Void v) {
        boolean divides = tree.getKind() == Tree.Kind.DIVIDE_ASSIGNMENT
            || tree.getKind() == Tree.Kind.REMAINDER_ASSIGNMENT;
        require(!divides, 7, tree, "a division that also assigns");
        return super.visitCompoundAssignment(tree, v);
    }

    @Override
    public Void visitLiteral(LiteralTree tree, Void v) {
        require(tree.getKind() != Tree.Kind.STRING_LITERAL && tree.getKind() != Tree.Kind.DOUBLE_LITERAL, 3, tree,
            "a text or a double: " + tree);
        return super.visitLiteral(tree, v);
    }

    // Loops: for (int i = ..; i < ..; i++), and nothing else is done to i.

    @Override
    public Void visitForLoop(ForLoopTree tree, Void v) {
        String name = tree.getInitializer().size() == 1 && tree.getInitializer().get(0) instanceof VariableTree first
            ? first.getName().toString() : "?";
        require(tree.getUpdate().size() == 1 && tree.getUpdate().get(0).toString().equals(name + "++;"), 9, tree,
            "a loop that does not count up");
        require(tree.getCondition() != null && isBounded(tree.getCondition(), name, tree.getStatement()), 9, tree,
            "a loop without a bound that its own lines show");
        require(!isChanged(name, tree.getStatement()), 9, tree, "a loop whose body changes its counter");
        return super.visitForLoop(tree, v);
    }

    /** Of conditions joined by && one is enough. */
    private boolean isBounded(ExpressionTree condition, String name, StatementTree body) {
        if (!(condition instanceof BinaryTree binary)) {
            return false;
        }
        if (binary.getKind() == Tree.Kind.CONDITIONAL_AND) {
            return isBounded(binary.getLeftOperand(), name, body) || isBounded(binary.getRightOperand(), name, body);
        }
        return binary.getKind() == Tree.Kind.LESS_THAN && binary.getLeftOperand().toString().equals(name)
            && isFixed(binary.getRightOperand(), body);
    }

    /** Whether a bound can be seen to stay as it is while that body runs. */
    private boolean isFixed(ExpressionTree bound, StatementTree body) {
        if (bound.getKind() == Tree.Kind.PLUS) {
            return isFixed(((BinaryTree) bound).getLeftOperand(), body)
                && isFixed(((BinaryTree) bound).getRightOperand(), body);
        }
        if (constantOf(bound) > 0) {
            return true;
        }
        if (!(trees.getElement(TreePath.getPath(unit, bound)) instanceof VariableElement variable)) {
            return false;
        }
        boolean isField = variable.getKind() == ElementKind.FIELD;
        return !isChanged(variable.toString(), body) && !(isField && CALL.matcher(body.toString()).find());
    }

    private static boolean isChanged(String name, StatementTree body) {
        return Pattern.compile("\\b" + name + "( [-+*/%&|^]?=(?!=)|\\+\\+|--)|(\\+\\+|--)" + name + "\\b")
            .matcher(body.toString()).find();
    }

    @Override
    public Void visitWhileLoop(WhileLoopTree tree, Void v) {
        fault(9, tree, "while");
        return null;
    }

    @Override
    public Void visitDoWhileLoop(DoWhileLoopTree tree, Void v) {
        fault(9, tree, "do");
        return null;
    }

    @Override
    public Void visitEnhancedForLoop(EnhancedForLoopTree tree, Void v) {
        fault(9, tree, "for over an array");
        return null;
    }

    // What the class does without.

    @Override
    public Void visitLambdaExpression(LambdaExpressionTree tree, Void v) {
        fault(2, tree, "a lambda");
        return null;
    }

    @Override
    public Void visitMemberReference(MemberReferenceTree tree, Void v) {
        fault(2, tree, "a method reference");
        return null;
    }

    @Override
    public Void visitTry(TryTree tree, Void v) {
        fault(6, tree, "try");
        return null;
    }

    @Override
    public Void visitThrow(ThrowTree tree, Void v) {
        fault(6, tree, "throw");
        return null;
    }

    @Override
    public Void visitAssert(AssertTree tree, Void v) {
        fault(6, tree, "assert");
        return null;
    }

    @Override
    public Void visitSynchronized(SynchronizedTree tree, Void v) {
        fault(6, tree, "synchronized");
        return null;
    }

    // Who calls whom.

    private void lookAtCalls() {
        for (String name : calls.keySet()) {
            int depth = depthFrom(name, new HashSet<>());
            require(depth <= DEEPEST, depth > calls.size() ? 8 : 11, unit, name + " goes " + depth + " deep");
        }
    }

    /** How many calls stand open at most; more than there are methods, if some method can call itself. */
    private int depthFrom(String name, Set<String> open) {
        if (!open.add(name)) {
            return calls.size() + 1;
        }
        int most = 0;
        for (String next : calls.getOrDefault(name, Set.of())) {
            most = Math.max(most, depthFrom(next, open));
        }
        open.remove(name);
        return most + 1;
    }

    private ExecutableElement caller() {
        TreePath path = getCurrentPath();
        while (path.getLeaf().getKind() != Tree.Kind.METHOD && path.getLeaf().getKind() != Tree.Kind.CLASS) {
            path = path.getParentPath();
        }
        if (path.getLeaf().getKind() == Tree.Kind.METHOD) {
            return (ExecutableElement) trees.getElement(path);
        }
        return trees.getElement(path).getEnclosedElements().stream()
            .filter(e -> e.getKind() == ElementKind.CONSTRUCTOR)
            .map(e -> (ExecutableElement) e).findFirst().orElseThrow();
    }

    private Tree enclosing(Class<? extends Tree> kind) {
        for (Tree tree : getCurrentPath()) {
            if (kind.isInstance(tree)) {
                return tree;
            }
        }
        return null;
    }

    private Element element() {
        return trees.getElement(getCurrentPath());
    }

    private TypeMirror typeOf(Tree tree) {
        return trees.getTypeMirror(TreePath.getPath(unit, tree));
    }

    private boolean isPositive(ExpressionTree tree) {
        return constantOf(tree) > 0;
    }

    /** 0, if it is none, or not of the plain forms that are looked at. */
    private int constantOf(ExpressionTree tree) {
        if (tree instanceof LiteralTree literal && literal.getValue() instanceof Integer value) {
            return value;
        }
        if (tree.getKind() == Tree.Kind.MULTIPLY) {
            return constantOf(((BinaryTree) tree).getLeftOperand()) * constantOf(((BinaryTree) tree).getRightOperand());
        }
        return trees.getElement(TreePath.getPath(unit, tree)) instanceof VariableElement variable
            && variable.getConstantValue() instanceof Integer value ? value : 0;
    }

    private static boolean isOwn(Element element) {
        return element.getEnclosingElement().toString().startsWith(NAME);
    }

    private static String nameOf(Element element) {
        return element.getEnclosingElement() + "." + element;
    }
}
