import com.sun.source.tree.AssertTree;
import com.sun.source.tree.BinaryTree;
import com.sun.source.tree.BlockTree;
import com.sun.source.tree.ClassTree;
import com.sun.source.tree.CompilationUnitTree;
import com.sun.source.tree.DoWhileLoopTree;
import com.sun.source.tree.EnhancedForLoopTree;
import com.sun.source.tree.ExpressionTree;
import com.sun.source.tree.ForLoopTree;
import com.sun.source.tree.ImportTree;
import com.sun.source.tree.InstanceOfTree;
import com.sun.source.tree.LambdaExpressionTree;
import com.sun.source.tree.LiteralTree;
import com.sun.source.tree.MemberReferenceTree;
import com.sun.source.tree.MethodInvocationTree;
import com.sun.source.tree.MethodTree;
import com.sun.source.tree.NewArrayTree;
import com.sun.source.tree.NewClassTree;
import com.sun.source.tree.SynchronizedTree;
import com.sun.source.tree.ThrowTree;
import com.sun.source.tree.Tree;
import com.sun.source.tree.TryTree;
import com.sun.source.tree.TypeCastTree;
import com.sun.source.tree.VariableTree;
import com.sun.source.tree.WhileLoopTree;
import com.sun.source.util.JavacTask;
import com.sun.source.util.SourcePositions;
import com.sun.source.util.TreePath;
import com.sun.source.util.TreePathScanner;
import com.sun.source.util.Trees;
import java.io.IOException;
import java.nio.file.Path;
import java.util.ArrayList;
import java.util.List;
import java.util.Map;
import java.util.Set;
import java.util.TreeMap;
import java.util.TreeSet;
import java.util.regex.Pattern;
import javax.lang.model.element.Element;
import javax.lang.model.element.ElementKind;
import javax.lang.model.element.Modifier;
import javax.lang.model.type.TypeMirror;
import javax.tools.JavaCompiler;
import javax.tools.StandardJavaFileManager;
import javax.tools.ToolProvider;

/**
 * The rules of LANGUAGE.md, held against the program as the compiler reads it. Rule 1 is FaceTest's,
 * rules 7 and 12 are also LastCallsTest's and RoomTest's. It is run in the project's folder; another
 * file may be told.
 */
public final class LanguageTest extends TreePathScanner<Void, Void> {
    private static final Checks CHECKS = new Checks();
    private static final Set<String> LIBRARY = Set.of(
            "ArrayList.add", "ArrayList.get", "ArrayList.set", "ArrayList.remove", "ArrayList.size",
            "ArrayList.isEmpty", "ArrayList.clear", "Math.min", "Math.max", "System.arraycopy",
            "Arrays.copyOf", "Arrays.copyOfRange", "Arrays.fill");
    private static final Pattern OWN = Pattern.compile("LetterTree(\\.\\w+)?");
    private static final Pattern TYPE = Pattern.compile("int|long|byte|boolean|(int|long|byte)\\[\\]"
            + "|LetterTree\\.\\w+(\\[\\])?|java\\.util\\.ArrayList<LetterTree\\.\\w+>");
    private static final int MOST_PARAMETERS = 7, MOST_LINES = 60, MOST_CHAIN = 8;
    private static final int MOST_CLASSES = 12, MOST_FIELDS = 20;

    private final Trees trees;
    private final CompilationUnitTree unit;
    private final Map<String, Set<String>> calls = new TreeMap<>();
    private final Map<String, MethodTree> methods = new TreeMap<>();
    private final List<String> callers = new ArrayList<>();
    private final List<MethodInvocationTree> invocations = new ArrayList<>();
    private final List<String> callees = new ArrayList<>();
    private int classes;

    private LanguageTest(Trees trees, CompilationUnitTree unit) {
        this.trees = trees;
        this.unit = unit;
    }

    public static void main(String[] args) throws IOException {
        Path file = Path.of(args.length > 0 ? args[0] : "src/main/java/LetterTree.java");
        JavaCompiler compiler = ToolProvider.getSystemJavaCompiler();
        try (StandardJavaFileManager files = compiler.getStandardFileManager(null, null, null)) {
            JavacTask task = (JavacTask) compiler.getTask(
                    null, files, null, List.of("-proc:none"), null, files.getJavaFileObjects(file));
            CompilationUnitTree unit = task.parse().iterator().next();
            task.analyze();
            new LanguageTest(Trees.instance(task), unit).all();
        }
        CHECKS.end();
    }

    private void all() {
        scan(new TreePath(unit), null);
        CHECKS.holds("no package", unit.getPackage() == null);
        CHECKS.holds("one file, one class", unit.getTypeDecls().size() == 1);
        CHECKS.holds("at most twelve classes", classes <= MOST_CLASSES);
        recursionIsGuarded();
        for (String method : calls.keySet()) {
            int chain = chainFrom(method);
            CHECKS.holds(method + " goes " + chain + " calls deep", chain <= MOST_CHAIN);
        }
    }

    private void holds(String what, Tree where, boolean answer) {
        CHECKS.holds("line " + line(where) + ": " + what, answer);
    }

    private long line(Tree tree) {
        SourcePositions positions = trees.getSourcePositions();
        return unit.getLineMap().getLineNumber(positions.getStartPosition(unit, tree));
    }

    private Element element(Tree tree) {
        return trees.getElement(TreePath.getPath(unit, tree));
    }

    private TypeMirror type(Tree tree) {
        return trees.getTypeMirror(TreePath.getPath(unit, tree));
    }

    // ---- rules 2 and 11: classes

    @Override
    public Void visitClass(ClassTree tree, Void none) {
        classes++;
        boolean outer = getCurrentPath().getParentPath().getLeaf() == unit;
        boolean inside = getCurrentPath().getParentPath().getLeaf() instanceof ClassTree;
        Set<Modifier> flags = tree.getModifiers().getFlags();
        holds("a static class inside", tree, outer || inside && flags.contains(Modifier.STATIC));
        int fields = 0;
        for (Tree member : tree.getMembers()) {
            boolean field = member instanceof VariableTree;
            fields += field && !element(member).getModifiers().contains(Modifier.STATIC) ? 1 : 0;
            holds("no block of its own", member, !(member instanceof BlockTree));
        }
        holds("at most twenty fields", tree, fields <= MOST_FIELDS);
        return super.visitClass(tree, none);
    }

    @Override
    public Void visitLambdaExpression(LambdaExpressionTree tree, Void none) {
        holds("no lambda", tree, false);
        return null;
    }

    @Override
    public Void visitMemberReference(MemberReferenceTree tree, Void none) {
        holds("no method reference", tree, false);
        return null;
    }

    // ---- rules 3 and 5: types, static fields

    @Override
    public Void visitVariable(VariableTree tree, Void none) {
        Element variable = element(tree);
        String type = variable.asType().toString();
        holds("a type " + type, tree, TYPE.matcher(type).matches());
        if (variable.getKind() == ElementKind.FIELD
                && variable.getModifiers().contains(Modifier.STATIC)) {
            holds("final", tree, variable.getModifiers().contains(Modifier.FINAL));
            holds("a constant", tree, isConstant(tree.getInitializer()));
        }
        return super.visitVariable(tree, none);
    }

    private boolean isConstant(ExpressionTree value) {
        if (value instanceof NewArrayTree array) {
            return array.getDimensions().isEmpty() && array.getType() == null;
        }
        return value != null && type(value).getKind().isPrimitive();
    }

    @Override
    public Void visitNewArray(NewArrayTree tree, Void none) {
        holds("one dimension", tree, tree.getDimensions().size() <= 1);
        return super.visitNewArray(tree, none);
    }

    // ---- rules 4 and 13: the library

    @Override
    public Void visitImport(ImportTree tree, Void none) {
        String name = tree.getQualifiedIdentifier().toString();
        holds("an import of the list", tree, name.matches("java\\.util\\.(ArrayList|Arrays)"));
        return null;
    }

    @Override
    public Void visitNewClass(NewClassTree tree, Void none) {
        Element made = element(tree).getEnclosingElement();
        boolean own = OWN.matcher(made.toString()).matches();
        boolean list = made.toString().equals("java.util.ArrayList") && tree.getArguments().isEmpty();
        holds("new " + made, tree, tree.getClassBody() == null && (own || list));
        return super.visitNewClass(tree, none);
    }

    @Override
    public Void visitMethodInvocation(MethodInvocationTree tree, Void none) {
        Element called = element(tree.getMethodSelect());
        Element owner = called.getEnclosingElement();
        if (OWN.matcher(owner.toString()).matches()) {
            noteCall(tree, called);
        } else if (called.getKind() == ElementKind.METHOD) {
            String name = owner.getSimpleName() + "." + called.getSimpleName();
            holds("a library call " + name, tree, LIBRARY.contains(name));
        }
        return super.visitMethodInvocation(tree, none);
    }

    @Override
    public Void visitLiteral(LiteralTree tree, Void none) {
        holds("no text", tree, !(tree.getValue() instanceof String));
        return null;
    }

    // ---- rule 6: what there is not

    @Override
    public Void visitThrow(ThrowTree tree, Void none) {
        holds("no throw", tree, false);
        return null;
    }

    @Override
    public Void visitTry(TryTree tree, Void none) {
        holds("no try", tree, false);
        return null;
    }

    @Override
    public Void visitSynchronized(SynchronizedTree tree, Void none) {
        holds("no synchronized", tree, false);
        return null;
    }

    @Override
    public Void visitAssert(AssertTree tree, Void none) {
        holds("no assert", tree, false);
        return null;
    }

    @Override
    public Void visitInstanceOf(InstanceOfTree tree, Void none) {
        holds("no kinds to ask for", tree, false);
        return null;
    }

    @Override
    public Void visitTypeCast(TypeCastTree tree, Void none) {
        holds("a cast of numbers", tree, type(tree.getType()).getKind().isPrimitive());
        return super.visitTypeCast(tree, none);
    }

    /** Two references may only be told apart from null: no answer depends on which object it is. */
    @Override
    public Void visitBinary(BinaryTree tree, Void none) {
        if (tree.getKind() == Tree.Kind.EQUAL_TO || tree.getKind() == Tree.Kind.NOT_EQUAL_TO) {
            boolean numbers = type(tree.getLeftOperand()).getKind().isPrimitive();
            boolean toNull = tree.getRightOperand().getKind() == Tree.Kind.NULL_LITERAL;
            holds("numbers, or null", tree, numbers || toNull);
        }
        return super.visitBinary(tree, none);
    }

    // ---- rules 9 and 12: loops

    private void endIsSeen(Tree loop, ExpressionTree condition) {
        boolean bound = condition != null && condition.toString().matches("(?s).*(<|>|>=).*");
        holds("a loop with a bound", loop, bound);
    }

    @Override
    public Void visitForLoop(ForLoopTree tree, Void none) {
        endIsSeen(tree, tree.getCondition());
        return super.visitForLoop(tree, none);
    }

    @Override
    public Void visitWhileLoop(WhileLoopTree tree, Void none) {
        endIsSeen(tree, tree.getCondition());
        return super.visitWhileLoop(tree, none);
    }

    @Override
    public Void visitDoWhileLoop(DoWhileLoopTree tree, Void none) {
        endIsSeen(tree, tree.getCondition());
        return super.visitDoWhileLoop(tree, none);
    }

    @Override
    public Void visitEnhancedForLoop(EnhancedForLoopTree tree, Void none) {
        boolean array = type(tree.getExpression()).toString().endsWith("[]");
        holds("no iterator", tree, array);
        return super.visitEnhancedForLoop(tree, none);
    }

    // ---- rules 8, 11 and 12: methods and their calls

    private static String nameOf(Element method) {
        return method.getEnclosingElement().getSimpleName() + "." + method;
    }

    private void noteCall(MethodInvocationTree tree, Element called) {
        Tree above = null;
        for (Tree around : getCurrentPath()) {
            above = above == null && around instanceof MethodTree ? around : above;
        }
        if (above == null) {
            holds("a call in a method", tree, false);
            return;
        }
        callers.add(nameOf(element(above)));
        callees.add(nameOf(called));
        invocations.add(tree);
        calls.get(nameOf(element(above))).add(nameOf(called));
        boolean constructor = element(above).getKind() == ElementKind.CONSTRUCTOR;
        holds("a call that can't be overridden", tree,
                !constructor || called.getModifiers().contains(Modifier.PRIVATE));
    }

    @Override
    public Void visitMethod(MethodTree tree, Void none) {
        String name = nameOf(element(tree));
        methods.put(name, tree);
        calls.put(name, new TreeSet<>());
        holds(name + " takes at most seven", tree, tree.getParameters().size() <= MOST_PARAMETERS);
        long end = trees.getSourcePositions().getEndPosition(unit, tree);
        long lines = end < 0 ? 0 : unit.getLineMap().getLineNumber(end) - line(tree) + 1;
        holds(name + " is short", tree, lines <= MOST_LINES);
        return super.visitMethod(tree, none);
    }

    private Set<String> reachedFrom(String method) {
        Set<String> reached = new TreeSet<>();
        List<String> open = new ArrayList<>(List.of(method));
        while (!open.isEmpty()) {
            for (String called : calls.getOrDefault(open.remove(0), Set.of())) {
                if (reached.add(called)) {
                    open.add(called);
                }
            }
        }
        return reached;
    }

    /** The methods that call one another with this one; none if it does not call itself. */
    private Set<String> ringOf(String method) {
        Set<String> ring = new TreeSet<>();
        for (String other : reachedFrom(method)) {
            if (reachedFrom(other).contains(method)) {
                ring.add(other);
            }
        }
        return ring;
    }

    /** All that are in a ring are private and static, count the depth, and look at it. */
    private void recursionIsGuarded() {
        for (int i = 0; i < callers.size(); i++) {
            Set<String> ring = ringOf(callers.get(i));
            if (ring.contains(callees.get(i))) {
                String last = invocations.get(i).getArguments().toString();
                holds("the depth is handed on", invocations.get(i), last.matches("(?s).*depth( \\+ 1)?"));
            }
        }
        for (String method : calls.keySet()) {
            Set<String> ring = ringOf(method);
            if (!ring.isEmpty()) {
                MethodTree tree = methods.get(method);
                Set<Modifier> flags = tree.getModifiers().getFlags();
                holds(method + " is private, static", tree,
                        flags.contains(Modifier.PRIVATE) && flags.contains(Modifier.STATIC));
                CHECKS.holds(ring + " looks at the depth", looksAtDepth(ring));
            }
        }
    }

    private boolean looksAtDepth(Set<String> ring) {
        boolean guarded = false;
        boolean counted = false;
        for (String method : ring) {
            String body = methods.get(method).getBody().toString();
            guarded |= body.matches("(?s).*depth (<|>=) MOST_DEPTH.*");
            counted |= body.contains("depth + 1");
        }
        return guarded && counted;
    }

    /** A ring counts as one call of each of its methods. */
    private int chainFrom(String method) {
        Set<String> ring = new TreeSet<>(ringOf(method));
        ring.add(method);
        int below = 0;
        for (String one : ring) {
            for (String called : calls.getOrDefault(one, Set.of())) {
                if (!ring.contains(called)) {
                    below = Math.max(below, chainFrom(called));
                }
            }
        }
        return ring.size() + below;
    }
}
