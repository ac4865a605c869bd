import com.sun.source.tree.BinaryTree;
import com.sun.source.tree.BlockTree;
import com.sun.source.tree.ClassTree;
import com.sun.source.tree.CompilationUnitTree;
import com.sun.source.tree.CompoundAssignmentTree;
import com.sun.source.tree.DoWhileLoopTree;
import com.sun.source.tree.ExpressionTree;
import com.sun.source.tree.ForLoopTree;
import com.sun.source.tree.LiteralTree;
import com.sun.source.tree.MethodInvocationTree;
import com.sun.source.tree.MethodTree;
import com.sun.source.tree.NewArrayTree;
import com.sun.source.tree.NewClassTree;
import com.sun.source.tree.ParenthesizedTree;
import com.sun.source.tree.Tree;
import com.sun.source.tree.VariableTree;
import com.sun.source.tree.WhileLoopTree;
import com.sun.source.util.JavacTask;
import com.sun.source.util.TreePath;
import com.sun.source.util.TreePathScanner;
import com.sun.source.util.Trees;
import java.io.IOException;
import java.nio.file.Files;
import java.nio.file.Path;
import java.util.ArrayList;
import java.util.HashMap;
import java.util.HashSet;
import java.util.LinkedHashMap;
import java.util.LinkedHashSet;
import java.util.List;
import java.util.Map;
import java.util.Set;
import javax.lang.model.element.Element;
import javax.lang.model.element.ElementKind;
import javax.lang.model.element.Modifier;
import javax.lang.model.element.VariableElement;
import javax.lang.model.type.ArrayType;
import javax.lang.model.type.TypeKind;
import javax.lang.model.type.TypeMirror;
import javax.tools.JavaCompiler;
import javax.tools.StandardJavaFileManager;
import javax.tools.ToolProvider;

/** Rules 1 to 13 of LANGUAGE.md, as far as they can be seen from the class as the compiler reads it. */
public final class RulesTest extends TreePathScanner<Void, Void> {
    private static final Path SOURCE = Path.of("src/main/java/BlockRanks.java");
    private static final int MOST_PARAMETERS = 7;
    private static final int MOST_LINES = 60;
    private static final int DEEPEST_CALLS = 8;
    private static final int MOST_CLASSES = 12;
    private static final int MOST_FIELDS = 20;
    /** All of the library that the class uses: a part of what rule 4 lists. */
    private static final Set<String> LIBRARY = Set.of("java.lang.Math.max", "java.lang.Math.min", "java.lang.System.arraycopy");
    /** The only methods that divide by what is no constant: both look at it first. */
    private static final Set<String> DIVIDING = Set.of("isPrime", "remainder");

    /** What a rule rules out, and what the class has no use for, though a rule allows it in some places. */
    private static final Map<Tree.Kind, String> NOT_THERE = Map.ofEntries(Map.entry(Tree.Kind.LAMBDA_EXPRESSION, "rule 2"),
        Map.entry(Tree.Kind.MEMBER_REFERENCE, "rule 2"), Map.entry(Tree.Kind.IMPORT, "rule 4, no use"),
        Map.entry(Tree.Kind.THROW, "rule 6"), Map.entry(Tree.Kind.TRY, "rule 6"),
        Map.entry(Tree.Kind.SYNCHRONIZED, "rule 6"), Map.entry(Tree.Kind.ASSERT, "rule 6"),
        Map.entry(Tree.Kind.BINDING_PATTERN, "rule 6, no use"), Map.entry(Tree.Kind.TYPE_CAST, "rules 6 and 7, no use"));

    private static final Due DUE = new Due("RulesTest");

    private final CompilationUnitTree unit;
    private final Trees trees;
    private final Map<Element, Set<Element>> calls = new LinkedHashMap<>();
    private final Set<String> publicNames = new HashSet<>();
    private final Set<String> privateNames = new HashSet<>();
    private final Set<String> dividing = new HashSet<>();
    private int classes;

    private RulesTest(CompilationUnitTree unit, Trees trees) {
        this.unit = unit;
        this.trees = trees;
    }

    public static void main(String[] args) throws IOException {
        JavaCompiler compiler = ToolProvider.getSystemJavaCompiler();
        try (StandardJavaFileManager files = compiler.getStandardFileManager(null, null, null)) {
            JavacTask task = (JavacTask) compiler.getTask(null, files, null, List.of("--release", "17"), null,
                files.getJavaFileObjects(SOURCE));
            CompilationUnitTree unit = task.parse().iterator().next();
            task.analyze();
            RulesTest test = new RulesTest(unit, Trees.instance(task));
            test.scan(unit, null);
            test.wholeFile();
            test.callChains();
        }
        DUE.finish();
    }

    // ---- what is seen of the file as a whole

    private void wholeFile() throws IOException {
        DUE.promise("rule 1");
        DUE.is("classes of the file's own", unit.getTypeDecls().size(), 1);
        DUE.holds("no package line", unit.getPackageName() == null);
        for (String name : privateNames) {
            DUE.holds("no public method is named as the private " + name, !publicNames.contains(name));
        }
        DUE.promise("rule 4");
        DUE.holds("signs 1 to 127", Files.readString(SOURCE).chars().allMatch(sign -> sign > 0 && sign < 128));
        DUE.promise("rule 7");
        DUE.holds("divided by no constant in " + dividing, dividing.equals(DIVIDING));
        DUE.promise("rule 11");
        DUE.holds(classes + " classes", classes > 1 && classes <= MOST_CLASSES);
    }

    private void callChains() {
        DUE.promise("rules 8 and 11");
        Map<Element, Integer> depths = new HashMap<>();
        for (Element method : calls.keySet()) {
            int depth = depth(method, new ArrayList<>(), depths);
            DUE.holds(method + " is " + depth + " calls deep", depth <= DEEPEST_CALLS);
        }
        DUE.holds("methods are found", calls.size() > 60);
    }

    /** How many methods stand open at once in a call. The class is written without recursion. */
    private int depth(Element method, List<Element> open, Map<Element, Integer> depths) {
        DUE.holds(method + " does not call itself: " + open, !open.contains(method));
        if (open.contains(method)) {
            return DEEPEST_CALLS + 1;
        }
        if (depths.containsKey(method)) {
            return depths.get(method);
        }
        open.add(method);
        int deepest = 0;
        for (Element called : calls.getOrDefault(method, Set.of())) {
            deepest = Math.max(deepest, depth(called, open, depths));
        }
        open.remove(method);
        depths.put(method, deepest + 1);
        return deepest + 1;
    }

    private Element element() {
        return trees.getElement(getCurrentPath());
    }

    private Tree above() {
        return getCurrentPath().getParentPath().getLeaf();
    }

    /** The method in which the scan is, or null outside of methods. */
    private MethodTree methodAround() {
        for (Tree tree : getCurrentPath()) {
            if (tree instanceof MethodTree method) {
                return method;
            }
        }
        return null;
    }

    @Override
    public Void scan(Tree tree, Void nothing) {
        if (tree != null) {
            String rule = NOT_THERE.get(tree.getKind());
            DUE.promise(rule);
            DUE.holds("no " + tree.getKind() + ": " + tree, rule == null);
        }
        return super.scan(tree, nothing);
    }

    // ---- classes, fields and methods

    @Override
    public Void visitClass(ClassTree tree, Void nothing) {
        Element element = element();
        classes++;
        if (above() != unit) {
            DUE.promise("rules 1 and 2");
            Set<Modifier> modifiers = element.getModifiers();
            DUE.holds(tree.getSimpleName() + " stands in the class", above() instanceof ClassTree);
            DUE.holds(tree.getSimpleName() + " is static", modifiers.contains(Modifier.STATIC));
            DUE.holds(tree.getSimpleName() + " is not seen from outside",
                !modifiers.contains(Modifier.PUBLIC) && !modifiers.contains(Modifier.PROTECTED));
        }
        DUE.promise("rule 2");
        DUE.holds(tree.getSimpleName() + " is a class", element.getKind() == ElementKind.CLASS);
        DUE.holds(tree.getSimpleName() + " extends nothing", tree.getExtendsClause() == null);
        int fields = 0;
        for (Tree member : tree.getMembers()) {
            boolean isBlock = member instanceof BlockTree;
            DUE.holds(tree.getSimpleName() + " has no initialiser block", !isBlock);
            Element inside = trees.getElement(new TreePath(getCurrentPath(), member));
            if (inside instanceof VariableElement field && field.getConstantValue() == null) {
                fields++;
            }
        }
        DUE.promise("rule 11");
        DUE.holds(tree.getSimpleName() + " has " + fields + " fields", fields <= MOST_FIELDS);
        return super.visitClass(tree, nothing);
    }

    @Override
    public Void visitMethod(MethodTree tree, Void nothing) {
        Element method = element();
        calls.computeIfAbsent(method, key -> new LinkedHashSet<>());
        Set<Modifier> modifiers = method.getModifiers();
        String name = tree.getName().toString();
        if (modifiers.contains(Modifier.PUBLIC) && method.getKind() == ElementKind.METHOD) {
            publicNames.add(name);
        }
        if (modifiers.contains(Modifier.PRIVATE)) {
            privateNames.add(name);
        }
        DUE.promise("rule 6");
        DUE.holds("no " + name, !Set.of("equals", "hashCode", "toString").contains(name));
        DUE.holds(name + " names no exception", tree.getThrows().isEmpty());
        DUE.promise("rule 11");
        DUE.holds(name + " takes at most seven", tree.getParameters().size() <= MOST_PARAMETERS);
        long first = unit.getLineMap().getLineNumber(trees.getSourcePositions().getStartPosition(unit, tree));
        long end = trees.getSourcePositions().getEndPosition(unit, tree);
        // A constructor that the compiler makes has no place in the file.
        long last = end < 0 ? first : unit.getLineMap().getLineNumber(end);
        DUE.holds(name + " is short", last - first < MOST_LINES);
        return super.visitMethod(tree, nothing);
    }

    @Override
    public Void visitVariable(VariableTree tree, Void nothing) {
        VariableElement variable = (VariableElement) element();
        DUE.promise("rule 3");
        DUE.holds(tree + ": a type of the rule's", isAllowed(variable.asType()));
        if (variable.getModifiers().contains(Modifier.STATIC)) {
            DUE.promise("rule 5");
            DUE.holds(tree + " is final", variable.getModifiers().contains(Modifier.FINAL));
            DUE.holds(tree + " is a constant", variable.getConstantValue() instanceof Integer);
        }
        return super.visitVariable(tree, nothing);
    }

    /** Numbers, truths and signs, own classes, arrays of these, and arrays of two dimensions of numbers. */
    private boolean isAllowed(TypeMirror type) {
        if (!(type instanceof ArrayType array)) {
            return type.getKind().isPrimitive() || isOwn(type);
        }
        TypeMirror part = array.getComponentType();
        if (part instanceof ArrayType row) {
            return row.getComponentType().getKind().isPrimitive() && row.getComponentType().getKind() != TypeKind.BOOLEAN;
        }
        return part.getKind().isPrimitive() || isOwn(part);
    }

    private static boolean isOwn(TypeMirror type) {
        return type.getKind() == TypeKind.DECLARED && type.toString().startsWith("BlockRanks");
    }

    // ---- what stands inside methods

    @Override
    public Void visitMethodInvocation(MethodInvocationTree tree, Void nothing) {
        Element called = element();
        String owner = called.getEnclosingElement().toString();
        // The compiler itself puts super() into each constructor.
        boolean isSuper = called.getKind() == ElementKind.CONSTRUCTOR;
        if (!isSuper) {
            DUE.promise("rules 4 and 13");
            boolean isOwn = owner.startsWith("BlockRanks");
            DUE.holds(tree + " is of the list", isOwn || LIBRARY.contains(owner + "." + called.getSimpleName()));
            MethodTree around = methodAround();
            DUE.holds(tree + " stands in a method", around != null);
            if (isOwn && around != null) {
                Element calling = trees.getElement(trees.getPath(unit, around));
                calls.computeIfAbsent(calling, key -> new LinkedHashSet<>()).add(called);
            }
        }
        return super.visitMethodInvocation(tree, nothing);
    }

    @Override
    public Void visitNewClass(NewClassTree tree, Void nothing) {
        DUE.promise("rules 2 and 12");
        DUE.holds(tree + " is no anonymous class", tree.getClassBody() == null);
        DUE.holds(tree + " is made with its object alone", methodAround() == null);
        DUE.holds(tree + " is one of the own classes", isOwn(trees.getTypeMirror(getCurrentPath())));
        return super.visitNewClass(tree, nothing);
    }

    @Override
    public Void visitNewArray(NewArrayTree tree, Void nothing) {
        DUE.promise("rules 7 and 12");
        DUE.holds(tree + " is made with its object alone", methodAround() == null);
        for (ExpressionTree length : tree.getDimensions()) {
            DUE.holds(length + " is a length", constant(length, getCurrentPath()) instanceof Integer number && number > 0);
        }
        return super.visitNewArray(tree, nothing);
    }

    @Override
    public Void visitBinary(BinaryTree tree, Void nothing) {
        if (tree.getKind() == Tree.Kind.DIVIDE || tree.getKind() == Tree.Kind.REMAINDER) {
            divisor(tree.getRightOperand());
        }
        return super.visitBinary(tree, nothing);
    }

    @Override
    public Void visitCompoundAssignment(CompoundAssignmentTree tree, Void nothing) {
        if (tree.getKind() == Tree.Kind.DIVIDE_ASSIGNMENT || tree.getKind() == Tree.Kind.REMAINDER_ASSIGNMENT) {
            divisor(tree.getExpression());
        }
        return super.visitCompoundAssignment(tree, nothing);
    }

    private void divisor(ExpressionTree tree) {
        if (constant(tree, getCurrentPath()) instanceof Integer number) {
            DUE.promise("rule 7");
            DUE.holds(tree + " is a divisor", number != 0);
        } else {
            dividing.add(String.valueOf(methodAround() == null ? null : methodAround().getName()));
        }
    }

    /** The number that an expression of numbers, constants, "*" and "+" always has, or null. */
    private Object constant(ExpressionTree tree, TreePath above) {
        TreePath path = new TreePath(above, tree);
        if (tree instanceof LiteralTree literal) {
            return literal.getValue();
        }
        if (tree instanceof ParenthesizedTree inner) {
            return constant(inner.getExpression(), path);
        }
        if (tree instanceof BinaryTree binary && constant(binary.getLeftOperand(), path) instanceof Integer left
            && constant(binary.getRightOperand(), path) instanceof Integer right) {
            return binary.getKind() == Tree.Kind.MULTIPLY ? left * right
                : binary.getKind() == Tree.Kind.PLUS ? (Object) (left + right) : null;
        }
        return trees.getElement(path) instanceof VariableElement variable ? variable.getConstantValue() : null;
    }

    private static void hasAnEnd(Tree loop, ExpressionTree condition) {
        DUE.promise("rule 9");
        boolean isEndless = condition == null || condition.toString().matches("\\(*true\\)*");
        DUE.holds("an end of " + loop, !isEndless);
    }

    @Override
    public Void visitForLoop(ForLoopTree tree, Void nothing) {
        hasAnEnd(tree, tree.getCondition());
        return super.visitForLoop(tree, nothing);
    }

    @Override
    public Void visitWhileLoop(WhileLoopTree tree, Void nothing) {
        hasAnEnd(tree, tree.getCondition());
        return super.visitWhileLoop(tree, nothing);
    }

    @Override
    public Void visitDoWhileLoop(DoWhileLoopTree tree, Void nothing) {
        hasAnEnd(tree, tree.getCondition());
        return super.visitDoWhileLoop(tree, nothing);
    }
}
