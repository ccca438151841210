import com.sun.source.tree.AssertTree;
import com.sun.source.tree.BinaryTree;
import com.sun.source.tree.ClassTree;
import com.sun.source.tree.CompilationUnitTree;
import com.sun.source.tree.CompoundAssignmentTree;
import com.sun.source.tree.DoWhileLoopTree;
import com.sun.source.tree.EnhancedForLoopTree;
import com.sun.source.tree.ExpressionTree;
import com.sun.source.tree.ForLoopTree;
import com.sun.source.tree.IdentifierTree;
import com.sun.source.tree.ImportTree;
import com.sun.source.tree.InstanceOfTree;
import com.sun.source.tree.LambdaExpressionTree;
import com.sun.source.tree.LiteralTree;
import com.sun.source.tree.MemberReferenceTree;
import com.sun.source.tree.MemberSelectTree;
import com.sun.source.tree.MethodInvocationTree;
import com.sun.source.tree.MethodTree;
import com.sun.source.tree.NewArrayTree;
import com.sun.source.tree.NewClassTree;
import com.sun.source.tree.SynchronizedTree;
import com.sun.source.tree.ThrowTree;
import com.sun.source.tree.Tree;
import com.sun.source.tree.TryTree;
import com.sun.source.tree.TypeCastTree;
import com.sun.source.tree.VariableTree;
import com.sun.source.tree.WhileLoopTree;
import com.sun.source.util.JavacTask;
import com.sun.source.util.SourcePositions;
import com.sun.source.util.TreePath;
import com.sun.source.util.TreePathScanner;
import com.sun.source.util.Trees;
import java.nio.charset.StandardCharsets;
import java.nio.file.Path;
import java.util.List;
import java.util.Set;
import java.util.TreeSet;
import javax.lang.model.element.Element;
import javax.lang.model.element.ElementKind;
import javax.lang.model.element.ExecutableElement;
import javax.lang.model.element.Modifier;
import javax.lang.model.type.TypeMirror;
import javax.tools.JavaCompiler;
import javax.tools.StandardJavaFileManager;
import javax.tools.ToolProvider;

/** LANGUAGE.md's rules, by their numbers, on the class as the compiler reads it. Runs in the project's root. */
public final class RulesTest extends TreePathScanner<Void, Void> {
    private static final String FILE = "src/main/java/BreathRoad.java";
    private static final Check CHECK = new Check();
    private static final Set<String> TYPES = Set.of("void", "int", "long", "short", "byte", "char", "boolean", "double", "float",
        "int[]", "long[]", "short[]", "byte[]", "char[]", "boolean[]", "double[]", "float[]", "int[][]", "long[][]", "byte[][]",
        "java.lang.String", "java.lang.StringBuilder");
    private static final Set<String> LIBRARY = Set.of("String.length", "String.charAt", "String.isEmpty", "String.equals",
        "String.indexOf", "String.substring", "String.toCharArray", "StringBuilder.append", "StringBuilder.charAt",
        "StringBuilder.setCharAt", "StringBuilder.setLength", "StringBuilder.deleteCharAt", "StringBuilder.reverse",
        "StringBuilder.length", "StringBuilder.toString", "Integer.bitCount", "Integer.compare", "Long.bitCount", "Long.compare",
        "Math.max", "Math.min", "Math.abs", "Math.floorDiv", "Math.floorMod", "System.arraycopy", "Arrays.copyOf",
        "Arrays.copyOfRange", "Arrays.fill");
    private static final Set<String> CONSTANTS = Set.of("int", "long", "boolean", "char", "java.lang.String");
    private static final Set<String> CONSTANT_ROWS = Set.of("int[]", "long[]", "char[]", "byte[]");

    private final Trees trees;
    private final CompilationUnitTree unit;
    private int classes = 0;
    private int loops = 0;
    private MethodTree method = null;
    private final CallGraph graph = new CallGraph();
    private final Set<String> face = new TreeSet<>();
    private final Set<String> hidden = new TreeSet<>();

    private RulesTest(Trees trees, CompilationUnitTree unit) {
        this.trees = trees;
        this.unit = unit;
    }

    public static void main(String[] args) throws Exception {
        JavaCompiler compiler = ToolProvider.getSystemJavaCompiler();
        try (StandardJavaFileManager files = compiler.getStandardFileManager(null, null, StandardCharsets.ISO_8859_1)) {
            JavacTask task = (JavacTask) compiler.getTask(null, files, null, List.of("-proc:none"), null,
                files.getJavaFileObjects(Path.of(args.length > 0 ? args[0] : FILE)));
            CompilationUnitTree unit = task.parse().iterator().next();
            task.analyze();
            RulesTest rules = new RulesTest(Trees.instance(task), unit);
            rules.scan(unit, null);
            CHECK.due("rule 1: a package line", unit.getPackageName() == null, true);
            CHECK.due("rule 1: types beside the class", unit.getTypeDecls().size(), 1);
            CHECK.due("rule 11: some twelve classes", rules.classes <= 12, true);
            rules.hidden.retainAll(rules.face);
            CHECK.due("rule 1: private ones that bear a public one's name " + rules.hidden, rules.hidden.size(), 0);
            rules.graph.keepsRules(CHECK);
        }
        CHECK.finish();
    }

    private void keeps(int rule, boolean kept, Tree tree, String what) {
        String at = "line " + unit.getLineMap().getLineNumber(trees.getSourcePositions().getStartPosition(unit, tree));
        CHECK.due("rule " + rule + ", " + at + ": " + what, kept, true);
    }

    private void never(int rule, Tree tree) {
        keeps(rule, false, tree, tree.getKind().toString());
    }

    private TypeMirror typeOf(Tree tree) {
        return trees.getTypeMirror(new TreePath(getCurrentPath(), tree));
    }

    private static boolean isOwn(String type) {
        return type.equals("BreathRoad") || type.startsWith("BreathRoad.");
    }

    private static boolean isKnown(String type) {
        return TYPES.contains(type) || isOwn(type.endsWith("[]") ? type.substring(0, type.length() - 2) : type);
    }

    private boolean isText(Tree tree) {
        return String.valueOf(typeOf(tree)).equals("java.lang.String");
    }

    // ---- classes, methods, variables

    @Override
    public Void visitImport(ImportTree tree, Void none) {
        keeps(4, tree.getQualifiedIdentifier().toString().equals("java.util.Arrays"), tree, "import of it");
        return null;
    }

    @Override
    public Void visitClass(ClassTree tree, Void none) {
        classes++;
        Set<Modifier> modifiers = tree.getModifiers().getFlags();
        Tree around = getCurrentPath().getParentPath().getLeaf();
        keeps(2, !tree.getSimpleName().isEmpty() && method == null, tree, "a local or an anonymous class");
        if (around instanceof ClassTree) {
            keeps(2, modifiers.contains(Modifier.STATIC), tree, "an inner class that isn't static");
            keeps(1, !modifiers.contains(Modifier.PUBLIC) && !modifiers.contains(Modifier.PROTECTED), tree, "a class to be seen");
        } else {
            keeps(1, modifiers.equals(Set.of(Modifier.PUBLIC, Modifier.FINAL)), tree, "public and final");
        }
        keeps(11, tree.getMembers().stream().filter(RulesTest::isField).count() <= 20, tree, "some twenty fields");
        return super.visitClass(tree, none);
    }

    private static boolean isField(Tree member) {
        return member instanceof VariableTree field && !field.getModifiers().getFlags().contains(Modifier.STATIC);
    }

    @Override
    public Void visitMethod(MethodTree tree, Void none) {
        Element element = trees.getElement(getCurrentPath());
        String type = element.getEnclosingElement().toString();
        Set<Modifier> modifiers = tree.getModifiers().getFlags();
        SourcePositions positions = trees.getSourcePositions();
        long lines = unit.getLineMap().getLineNumber(positions.getEndPosition(unit, tree))
            - unit.getLineMap().getLineNumber(positions.getStartPosition(unit, tree)) + 1;
        keeps(11, lines <= 60 && tree.getParameters().size() <= 7, tree, tree.getName() + " is short and takes few");
        keeps(3, tree.getReturnType() == null || isKnown(typeOf(tree.getReturnType()).toString()), tree, "its type");
        keeps(6, !Set.of("equals", "hashCode", "toString").contains(tree.getName().toString()), tree, "of all objects");
        keeps(1, !modifiers.contains(Modifier.PROTECTED) && tree.getThrows().isEmpty(), tree, "protected, or throws");
        for (VariableTree taken : tree.getParameters()) {
            keeps(1, !modifiers.contains(Modifier.PUBLIC) || taken.getType().toString().equals("int"), tree, "the face takes int");
        }
        boolean faced = modifiers.contains(Modifier.PUBLIC);
        boolean hides = modifiers.contains(Modifier.PRIVATE);
        keeps(1, type.equals("BreathRoad") ? faced || hides : !faced, tree, "who sees it");
        if (element.getKind() == ElementKind.METHOD && (faced || hides)) {
            (faced ? face : hidden).add(tree.getName().toString());
        }
        graph.add(nameOf(element), faced, hides);
        method = tree;
        super.visitMethod(tree, none);
        method = null;
        return null;
    }

    private static String nameOf(Element called) {
        return called.getEnclosingElement() + "." + called;
    }

    @Override
    public Void visitVariable(VariableTree tree, Void none) {
        String type = typeOf(tree.getType()).toString();
        keeps(3, isKnown(type), tree, "a variable of " + type);
        Element element = trees.getElement(getCurrentPath());
        if (element.getKind() == ElementKind.FIELD && element.getModifiers().contains(Modifier.STATIC)) {
            keeps(5, element.getModifiers().contains(Modifier.FINAL), tree, "static and not final");
            keeps(5, CONSTANTS.contains(type) || CONSTANT_ROWS.contains(type) && tree.getInitializer() instanceof NewArrayTree,
                tree, "no constant");
        }
        return super.visitVariable(tree, none);
    }

    // ---- what never stands there

    @Override
    public Void visitLambdaExpression(LambdaExpressionTree tree, Void none) {
        never(2, tree);
        return null;
    }

    @Override
    public Void visitMemberReference(MemberReferenceTree tree, Void none) {
        never(2, tree);
        return null;
    }

    @Override
    public Void visitThrow(ThrowTree tree, Void none) {
        never(6, tree);
        return null;
    }

    @Override
    public Void visitTry(TryTree tree, Void none) {
        never(6, tree);
        return null;
    }

    @Override
    public Void visitSynchronized(SynchronizedTree tree, Void none) {
        never(6, tree);
        return null;
    }

    @Override
    public Void visitAssert(AssertTree tree, Void none) {
        never(6, tree);
        return null;
    }

    /** Fine among own classes, but none is used here. */
    @Override
    public Void visitInstanceOf(InstanceOfTree tree, Void none) {
        never(6, tree);
        return null;
    }

    // ---- expressions

    @Override
    public Void visitTypeCast(TypeCastTree tree, Void none) {
        keeps(6, typeOf(tree.getType()).getKind().isPrimitive(), tree, "a cast of objects");
        return super.visitTypeCast(tree, none);
    }

    @Override
    public Void visitLiteral(LiteralTree tree, Void none) {
        if (tree.getValue() instanceof String || tree.getValue() instanceof Character) {
            keeps(4, tree.getValue().toString().chars().allMatch(sign -> sign >= 1 && sign <= 127), tree, "signs of 1 to 127");
        }
        return super.visitLiteral(tree, none);
    }

    @Override
    public Void visitBinary(BinaryTree tree, Void none) {
        boolean texts = isText(tree.getLeftOperand()) || isText(tree.getRightOperand());
        keeps(10, !texts || tree.getKind() != Tree.Kind.PLUS, tree, "texts joined by +");
        keeps(6, !texts || tree.getKind() == Tree.Kind.PLUS, tree, "texts compared by their references");
        return super.visitBinary(tree, none);
    }

    @Override
    public Void visitCompoundAssignment(CompoundAssignmentTree tree, Void none) {
        keeps(10, !isText(tree.getVariable()), tree, "texts joined by +=");
        return super.visitCompoundAssignment(tree, none);
    }

    @Override
    public Void visitNewClass(NewClassTree tree, Void none) {
        String type = typeOf(tree).toString();
        keeps(4, isOwn(type) || type.equals("java.lang.StringBuilder") || type.equals("java.lang.String"), tree, "new " + type);
        keeps(12, loops == 0, tree, "an object made in a loop");
        return super.visitNewClass(tree, none);
    }

    @Override
    public Void visitNewArray(NewArrayTree tree, Void none) {
        keeps(12, loops == 0, tree, "an array made in a loop");
        return super.visitNewArray(tree, none);
    }

    @Override
    public Void visitMemberSelect(MemberSelectTree tree, Void none) {
        Element element = trees.getElement(getCurrentPath());
        if (element != null && element.getKind() == ElementKind.FIELD) {
            String owner = String.valueOf(element.getEnclosingElement());
            keeps(4, isOwn(owner) || tree.getIdentifier().contentEquals("length"), tree, "a field of " + owner);
        }
        return super.visitMemberSelect(tree, none);
    }

    @Override
    public Void visitMethodInvocation(MethodInvocationTree tree, Void none) {
        ExecutableElement called = (ExecutableElement) trees.getElement(getCurrentPath());
        String owner = called.getEnclosingElement().toString();
        if (called.getKind() == ElementKind.CONSTRUCTOR) {
            return super.visitMethodInvocation(tree, none);
        }
        if (!isOwn(owner)) {
            String name = called.getEnclosingElement().getSimpleName() + "." + called.getSimpleName();
            keeps(4, owner.startsWith("java.") && LIBRARY.contains(name), tree, "a call of " + name);
        } else if (method != null) {
            Element from = trees.getElement(pathOf(Tree.Kind.METHOD));
            graph.call(nameOf(from), nameOf(called), tree.getArguments().stream().anyMatch(this::isOneMore));
            keeps(12, from.getKind() != ElementKind.CONSTRUCTOR || called.getModifiers().contains(Modifier.STATIC)
                || called.getModifiers().contains(Modifier.PRIVATE), tree, "a constructor's call");
        }
        return super.visitMethodInvocation(tree, none);
    }

    private TreePath pathOf(Tree.Kind kind) {
        TreePath path = getCurrentPath();
        while (path.getLeaf().getKind() != kind) {
            path = path.getParentPath();
        }
        return path;
    }

    /** A parameter of the method that calls, and one. */
    private boolean isOneMore(ExpressionTree argument) {
        return argument instanceof BinaryTree sum && sum.getKind() == Tree.Kind.PLUS
            && sum.getLeftOperand() instanceof IdentifierTree name && sum.getRightOperand().toString().equals("1")
            && method.getParameters().stream().anyMatch(taken -> taken.getName().equals(name.getName()));
    }

    // ---- loops

    private void loop(Tree tree, ExpressionTree condition, Runnable inside) {
        keeps(9, condition != null && !condition.toString().equals("(true)"), tree, "a loop without an end");
        loops++;
        inside.run();
        loops--;
    }

    @Override
    public Void visitForLoop(ForLoopTree tree, Void none) {
        loop(tree, tree.getCondition(), () -> super.visitForLoop(tree, none));
        return null;
    }

    @Override
    public Void visitWhileLoop(WhileLoopTree tree, Void none) {
        loop(tree, tree.getCondition(), () -> super.visitWhileLoop(tree, none));
        return null;
    }

    @Override
    public Void visitDoWhileLoop(DoWhileLoopTree tree, Void none) {
        loop(tree, tree.getCondition(), () -> super.visitDoWhileLoop(tree, none));
        return null;
    }

    @Override
    public Void visitEnhancedForLoop(EnhancedForLoopTree tree, Void none) {
        loop(tree, tree.getExpression(), () -> super.visitEnhancedForLoop(tree, none));
        return null;
    }
}
