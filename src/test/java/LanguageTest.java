import com.sun.source.tree.AssertTree;
import com.sun.source.tree.BinaryTree;
import com.sun.source.tree.ClassTree;
import com.sun.source.tree.CompilationUnitTree;
import com.sun.source.tree.CompoundAssignmentTree;
import com.sun.source.tree.DoWhileLoopTree;
import com.sun.source.tree.EnhancedForLoopTree;
import com.sun.source.tree.ForLoopTree;
import com.sun.source.tree.InstanceOfTree;
import com.sun.source.tree.LambdaExpressionTree;
import com.sun.source.tree.LiteralTree;
import com.sun.source.tree.MemberReferenceTree;
import com.sun.source.tree.MethodInvocationTree;
import com.sun.source.tree.MethodTree;
import com.sun.source.tree.NewArrayTree;
import com.sun.source.tree.NewClassTree;
import com.sun.source.tree.SynchronizedTree;
import com.sun.source.tree.ThrowTree;
import com.sun.source.tree.Tree;
import com.sun.source.tree.TryTree;
import com.sun.source.tree.TypeCastTree;
import com.sun.source.tree.VariableTree;
import com.sun.source.tree.WhileLoopTree;
import com.sun.source.util.JavacTask;
import com.sun.source.util.TreePath;
import com.sun.source.util.TreePathScanner;
import com.sun.source.util.Trees;
import java.io.File;
import java.io.IOException;
import java.util.ArrayList;
import java.util.HashMap;
import java.util.HashSet;
import java.util.LinkedHashSet;
import java.util.List;
import java.util.Map;
import java.util.Set;
import javax.lang.model.element.Element;
import javax.lang.model.element.ExecutableElement;
import javax.lang.model.element.Modifier;
import javax.lang.model.type.TypeKind;
import javax.tools.JavaCompiler;
import javax.tools.StandardJavaFileManager;
import javax.tools.ToolProvider;

/** The rules of ../shared/LANGUAGE.md, as far as the class's tree tells them (it uses less than they allow). */
public final class LanguageTest extends TreePathScanner<Void, Void> {
    private static final String FILE = "src/main/java/AtlasEnds.java";
    private static final Set<String> FACE = Set.of("one", "of", "leaf", "sheet", "gap", "hold", "free", "walk", "row",
        "feed", "library", "told", "pass", "on", "meets", "best", "see", "can", "odds", "mean", "plan", "ends", "book",
        "looked", "judge", "image", "undo", "act", "trace", "taken", "count", "tape", "item", "read", "shift");
    private static final Set<String> FACE_FIELDS = Set.of("NONE", "BAD", "STATE", "FULL", "NO");
    private static final Set<String> LIBRARY_CALLS = Set.of("java.lang.Math.abs", "java.lang.Math.min", "java.lang.Math.max",
        "java.lang.Integer.bitCount", "java.lang.System.arraycopy", "java.lang.String.length", "java.lang.String.charAt",
        "java.lang.String.indexOf", "java.lang.Object.<init>");

    private final CompilationUnitTree unit;
    private final Trees trees;
    private final Map<Element, Set<Element>> calls = new HashMap<>();
    private final Set<String> face = new HashSet<>();
    private final Set<String> faceFields = new HashSet<>();
    private int classes;
    private int seen;
    private int wrong;

    private LanguageTest(CompilationUnitTree unit, Trees trees) {
        this.unit = unit;
        this.trees = trees;
    }

    public static void main(String[] args) throws IOException {
        JavaCompiler compiler = ToolProvider.getSystemJavaCompiler();
        StandardJavaFileManager files = compiler.getStandardFileManager(null, null, null);
        JavacTask task = (JavacTask) compiler.getTask(null, files, null, List.of("--release", "17", "-proc:none"), null,
            files.getJavaFileObjects(new File(FILE)));
        CompilationUnitTree unit = task.parse().iterator().next();
        task.analyze();
        LanguageTest test = new LanguageTest(unit, Trees.instance(task));
        test.scan(unit, null);
        test.atTheEnd();
        System.out.println("LanguageTest: " + test.seen + " things looked at, " + test.wrong + " not as the rules say");
        if (test.wrong != 0) {
            System.exit(1);
        }
    }

    // ---- what is said

    private long lineOf(Tree tree) {
        return unit.getLineMap().getLineNumber(trees.getSourcePositions().getStartPosition(unit, tree));
    }

    private long lastLineOf(Tree tree) {
        return unit.getLineMap().getLineNumber(trees.getSourcePositions().getEndPosition(unit, tree));
    }

    private void must(boolean is, int rule, Tree tree, String what) {
        seen++;
        if (!is) {
            wrong++;
            System.out.println("LanguageTest: rule " + rule + ", line " + (tree == null ? 0 : lineOf(tree)) + ": " + what);
        }
    }

    private boolean isOutermost(ClassTree tree) {
        return tree.getSimpleName().contentEquals("AtlasEnds");
    }

    private ClassTree classAround() {
        for (TreePath p = getCurrentPath().getParentPath(); p != null; p = p.getParentPath()) {
            if (p.getLeaf() instanceof ClassTree c) {
                return c;
            }
        }
        return null;
    }

    private MethodTree methodAround() {
        for (TreePath p = getCurrentPath(); p != null; p = p.getParentPath()) {
            if (p.getLeaf() instanceof MethodTree m) {
                return m;
            }
        }
        return null;
    }

    // ---- classes, members

    @Override
    public Void visitCompilationUnit(CompilationUnitTree tree, Void v) {
        must(tree.getPackageName() == null, 1, tree, "a package line");
        must(tree.getTypeDecls().size() == 1, 1, tree, "more than one outermost class");
        must(tree.getImports().isEmpty(), 4, tree, "an import");
        return super.visitCompilationUnit(tree, v);
    }

    @Override
    public Void visitClass(ClassTree tree, Void v) {
        classes++;
        Set<Modifier> flags = tree.getModifiers().getFlags();
        must(tree.getKind() == Tree.Kind.CLASS, 2, tree, "it is a class");
        if (isOutermost(tree)) {
            must(flags.equals(Set.of(Modifier.PUBLIC, Modifier.FINAL)), 1, tree, "public and final");
        } else {
            must(flags.contains(Modifier.STATIC) && flags.contains(Modifier.FINAL) && !flags.contains(Modifier.PUBLIC)
                && !flags.contains(Modifier.PROTECTED), 2, tree, "a class inside is static, and not public");
            must(getCurrentPath().getParentPath().getLeaf() instanceof ClassTree, 2, tree, "no local class");
        }
        long fields = tree.getMembers().stream().filter(m -> m instanceof VariableTree f
            && !f.getModifiers().getFlags().contains(Modifier.STATIC)).count();
        must(fields <= 20, 11, tree, fields + " fields");
        must(tree.getMembers().stream().noneMatch(m -> m.getKind() == Tree.Kind.BLOCK), 5, tree, "an initialiser block");
        return super.visitClass(tree, v);
    }

    @Override
    public Void visitVariable(VariableTree tree, Void v) {
        Set<Modifier> flags = tree.getModifiers().getFlags();
        if (getCurrentPath().getParentPath().getLeaf() instanceof ClassTree c) {
            must(!flags.contains(Modifier.STATIC) || flags.contains(Modifier.FINAL), 5, tree, "a static field that isn't final");
            if (isOutermost(c) && flags.contains(Modifier.PUBLIC)) {
                faceFields.add(tree.getName().toString());
            } else if (isOutermost(c)) {
                must(flags.contains(Modifier.PRIVATE), 1, tree, "a field that isn't private");
            }
        }
        TypeKind kind = trees.getTypeMirror(new TreePath(getCurrentPath(), tree.getType())).getKind();
        must(kind != TypeKind.DOUBLE && kind != TypeKind.FLOAT, 3, tree, "no doubles are needed");
        return super.visitVariable(tree, v);
    }

    @Override
    public Void visitMethod(MethodTree tree, Void v) {
        String name = tree.getName().toString();
        Set<Modifier> flags = tree.getModifiers().getFlags();
        boolean isFace = isOutermost(classAround()) && flags.contains(Modifier.PUBLIC);
        if (isFace && !name.equals("<init>")) {
            face.add(name);
        }
        must(isFace || name.equals("<init>") || !FACE.contains(name), 1, tree, "the name of a public method: " + name);
        must(isFace || !isOutermost(classAround()) || flags.contains(Modifier.PRIVATE), 1, tree, name + " isn't private");
        must(tree.getParameters().size() <= 7, 11, tree, "more than seven parameters: " + name);
        must(lastLineOf(tree) - lineOf(tree) < 60, 11, tree, "longer than sixty lines: " + name);
        must(tree.getThrows().isEmpty(), 6, tree, "throws");
        calls.putIfAbsent(trees.getElement(getCurrentPath()), new LinkedHashSet<>());
        return super.visitMethod(tree, v);
    }

    // ---- what stands in methods

    @Override
    public Void visitMethodInvocation(MethodInvocationTree tree, Void v) {
        ExecutableElement called = (ExecutableElement) trees.getElement(getCurrentPath());
        String owner = called.getEnclosingElement().toString();
        String full = owner + "." + called.getSimpleName();
        if (owner.startsWith("AtlasEnds")) {
            Element from = trees.getElement(trees.getPath(unit, methodAround()));
            calls.computeIfAbsent(from, k -> new LinkedHashSet<>()).add(called);
        } else {
            must(LIBRARY_CALLS.contains(full), 4, tree, "a call of " + full);
        }
        return super.visitMethodInvocation(tree, v);
    }

    @Override
    public Void visitBinary(BinaryTree tree, Void v) {
        String left = trees.getTypeMirror(new TreePath(getCurrentPath(), tree.getLeftOperand())).toString();
        String right = trees.getTypeMirror(new TreePath(getCurrentPath(), tree.getRightOperand())).toString();
        must(!left.equals("java.lang.String") && !right.equals("java.lang.String"), 10, tree, "texts joined or compared by a sign");
        return super.visitBinary(tree, v);
    }

    @Override
    public Void visitCompoundAssignment(CompoundAssignmentTree tree, Void v) {
        String left = trees.getTypeMirror(new TreePath(getCurrentPath(), tree.getVariable())).toString();
        must(!left.equals("java.lang.String"), 10, tree, "texts joined by a sign");
        return super.visitCompoundAssignment(tree, v);
    }

    @Override
    public Void visitLiteral(LiteralTree tree, Void v) {
        if (tree.getValue() instanceof String s) {
            must(s.chars().allMatch(c -> c >= 1 && c <= 127), 4, tree, "a sign beyond 127");
        }
        return super.visitLiteral(tree, v);
    }

    @Override
    public Void visitForLoop(ForLoopTree tree, Void v) {
        must(tree.getInitializer().size() == 1 && tree.getUpdate().size() == 1 && tree.getCondition() != null
            && tree.getUpdate().get(0).getExpression().getKind() == Tree.Kind.POSTFIX_INCREMENT, 9, tree, "a loop counts upward to a bound");
        return super.visitForLoop(tree, v);
    }

    private Void no(int rule, Tree tree, String what) {
        must(false, rule, tree, what);
        return null;
    }

    @Override
    public Void visitWhileLoop(WhileLoopTree tree, Void v) {
        return no(9, tree, "while: its end isn't seen from its own lines");
    }

    @Override
    public Void visitDoWhileLoop(DoWhileLoopTree tree, Void v) {
        return no(9, tree, "do: its end isn't seen from its own lines");
    }

    @Override
    public Void visitEnhancedForLoop(EnhancedForLoopTree tree, Void v) {
        return no(12, tree, "loops go by index");
    }

    @Override
    public Void visitThrow(ThrowTree tree, Void v) {
        return no(6, tree, "throw");
    }

    @Override
    public Void visitTry(TryTree tree, Void v) {
        return no(6, tree, "try");
    }

    @Override
    public Void visitAssert(AssertTree tree, Void v) {
        return no(6, tree, "assert");
    }

    @Override
    public Void visitSynchronized(SynchronizedTree tree, Void v) {
        return no(6, tree, "synchronized");
    }

    @Override
    public Void visitInstanceOf(InstanceOfTree tree, Void v) {
        return no(6, tree, "instanceof isn't needed");
    }

    @Override
    public Void visitLambdaExpression(LambdaExpressionTree tree, Void v) {
        return no(2, tree, "a lambda");
    }

    @Override
    public Void visitMemberReference(MemberReferenceTree tree, Void v) {
        return no(2, tree, "a method reference");
    }

    @Override
    public Void visitTypeCast(TypeCastTree tree, Void v) {
        TypeKind kind = trees.getTypeMirror(new TreePath(getCurrentPath(), tree.getType())).getKind();
        must(kind.isPrimitive(), 6, tree, "a cast of objects");
        return super.visitTypeCast(tree, v);
    }

    @Override
    public Void visitNewClass(NewClassTree tree, Void v) {
        must(tree.getClassBody() == null, 2, tree, "an anonymous class");
        must(isMadeAtFirst(), 12, tree, "an object made by a call");
        return super.visitNewClass(tree, v);
    }

    @Override
    public Void visitNewArray(NewArrayTree tree, Void v) {
        must(isMadeAtFirst(), 12, tree, "an array made by a call");
        return super.visitNewArray(tree, v);
    }

    private boolean isMadeAtFirst() {
        MethodTree method = methodAround();
        return method == null || method.getName().contentEquals("<init>");
    }

    // ---- the whole

    private void atTheEnd() {
        must(face.equals(FACE), 1, null, "the methods are the face's: " + face);
        must(faceFields.equals(FACE_FIELDS), 1, null, "the constants are the face's: " + faceFields);
        must(classes <= 12, 11, null, classes + " classes");
        int deepest = 0;
        for (Element from : calls.keySet()) {
            int depth = depthFrom(from, new ArrayList<>());
            must(depth <= 8, 11, null, from + " goes " + depth + " calls deep");
            deepest = Math.max(deepest, depth);
        }
        System.out.println("LanguageTest: " + classes + " classes, calls " + deepest + " deep");
    }

    /** A ring of methods that call one another counts as one: what goes round is held by its depth. */
    private int depthFrom(Element from, List<Element> way) {
        if (way.contains(from)) {
            return 0;
        }
        way.add(from);
        int deepest = 0;
        for (Element to : calls.getOrDefault(from, Set.of())) {
            deepest = Math.max(deepest, depthFrom(to, way));
        }
        way.remove(from);
        boolean isRing = calls.getOrDefault(from, Set.of()).stream().anyMatch(to -> reaches(to, from, new HashSet<>()));
        boolean isInRing = isRing && way.stream().anyMatch(w -> reaches(from, w, new HashSet<>()));
        return deepest + (isInRing ? 0 : 1);
    }

    private boolean reaches(Element from, Element to, Set<Element> been) {
        if (from.equals(to)) {
            return true;
        }
        return been.add(from) && calls.getOrDefault(from, Set.of()).stream().anyMatch(next -> reaches(next, to, been));
    }
}
