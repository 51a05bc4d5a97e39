import com.sun.source.tree.AssertTree;
import com.sun.source.tree.BinaryTree;
import com.sun.source.tree.BlockTree;
import com.sun.source.tree.ClassTree;
import com.sun.source.tree.CompilationUnitTree;
import com.sun.source.tree.DoWhileLoopTree;
import com.sun.source.tree.ForLoopTree;
import com.sun.source.tree.InstanceOfTree;
import com.sun.source.tree.LambdaExpressionTree;
import com.sun.source.tree.LiteralTree;
import com.sun.source.tree.MemberReferenceTree;
import com.sun.source.tree.MethodInvocationTree;
import com.sun.source.tree.MethodTree;
import com.sun.source.tree.NewArrayTree;
import com.sun.source.tree.NewClassTree;
import com.sun.source.tree.SynchronizedTree;
import com.sun.source.tree.ThrowTree;
import com.sun.source.tree.Tree;
import com.sun.source.tree.TryTree;
import com.sun.source.tree.TypeCastTree;
import com.sun.source.tree.VariableTree;
import com.sun.source.tree.WhileLoopTree;
import com.sun.source.util.JavacTask;
import com.sun.source.util.TreePath;
import com.sun.source.util.TreePathScanner;
import com.sun.source.util.Trees;
import java.io.File;
import java.nio.file.Files;
import java.nio.file.Path;
import java.util.HashSet;
import java.util.LinkedHashMap;
import java.util.List;
import java.util.Map;
import java.util.Set;
import javax.lang.model.element.Element;
import javax.lang.model.element.ElementKind;
import javax.lang.model.element.Modifier;
import javax.lang.model.element.VariableElement;
import javax.tools.JavaCompiler;
import javax.tools.StandardJavaFileManager;
import javax.tools.ToolProvider;

/**
 * The class keeps to ../shared/LANGUAGE.md, as far as its tree shows. Where the rules leave more than the class needs,
 * this holds it to what it needs: no list, no text, no try, no recursion, no loop but for.
 */
public final class LanguageTest extends TreePathScanner<Void, Void> {
    private static final Path SOURCE = Path.of("src/main/java/SnowPumps.java");
    private static final Set<String> TYPES = Set.of("int", "long", "boolean", "int[]", "boolean[]");
    private static final Set<String> CALLS = Set.of("java.lang.Math.max", "java.lang.Math.min", "java.lang.Math.abs",
            "java.lang.Math.floorMod");
    private static final Set<String> EXCEPTIONS = Set.of("java.lang.IllegalStateException",
            "java.lang.IllegalArgumentException", "java.lang.IndexOutOfBoundsException");

    private static final Check check = new Check();

    private final Trees trees;
    private final CompilationUnitTree unit;
    private final Map<Element, Set<Element>> callsOf = new LinkedHashMap<>();
    private int classes;

    private LanguageTest(Trees trees, CompilationUnitTree unit) {
        this.trees = trees;
        this.unit = unit;
    }

    public static void main(String[] args) throws Exception {
        signs();
        JavaCompiler compiler = ToolProvider.getSystemJavaCompiler();
        try (StandardJavaFileManager files = compiler.getStandardFileManager(null, null, null)) {
            JavacTask task = (JavacTask) compiler.getTask(null, files, null, List.of("--release", "17"), null,
                    files.getJavaFileObjects(new File(SOURCE.toString())));
            CompilationUnitTree unit = task.parse().iterator().next();
            task.analyze();
            LanguageTest scanner = new LanguageTest(Trees.instance(task), unit);
            scanner.ofTheFile();
            scanner.scan(unit, null);
            scanner.ofTheWhole();
        }
        check.finish();
    }

    // Rule 4: "whose signs are 1 to 127"
    private static void signs() throws Exception {
        for (byte sign : Files.readAllBytes(SOURCE)) {
            if (sign < 1) {
                check.tell("a sign that is not 1 to 127");
            }
        }
    }

    private void ofTheFile() {
        check.due("a package line", unit.getPackageName() != null, false);
        check.due("imports", unit.getImports().size(), 0);
        check.due("classes that stand alone", unit.getTypeDecls().size(), 1);
    }

    // Rules 8 and 11: "calls that are no recursion go at most eight deep", "at most some twelve classes"
    private void ofTheWhole() {
        check.due("more than twelve classes", classes > 12, false);
        for (Element method : callsOf.keySet()) {
            check.due(method + ": calls more than eight deep", depth(method, new HashSet<>()) > 8, false);
        }
    }

    private int depth(Element method, Set<Element> open) {
        if (!open.add(method)) {
            check.tell(method + " comes to call itself");
            return 0;
        }
        int deepest = 0;
        for (Element called : callsOf.getOrDefault(method, Set.of())) {
            deepest = Math.max(deepest, depth(called, open));
        }
        open.remove(method);
        return deepest + 1;
    }

    private void not(String what, Tree tree) {
        long line = unit.getLineMap().getLineNumber(trees.getSourcePositions().getStartPosition(unit, tree));
        check.tell("line " + line + ": " + what + ": " + tree);
    }

    private Element element() {
        return trees.getElement(getCurrentPath());
    }

    private static boolean isOwn(Element of) {
        Element outer = of;
        while (outer != null && outer.getKind() != ElementKind.PACKAGE) {
            if (outer.getSimpleName().contentEquals("SnowPumps")) {
                return true;
            }
            outer = outer.getEnclosingElement();
        }
        return false;
    }

    private MethodTree enclosingMethod() {
        for (TreePath path = getCurrentPath(); path != null; path = path.getParentPath()) {
            if (path.getLeaf() instanceof MethodTree method) {
                return method;
            }
        }
        return null;
    }

    // Rules 2 and 11: "static nested classes", no local or anonymous ones; "some twenty fields beside its constants"
    @Override
    public Void visitClass(ClassTree tree, Void none) {
        classes++;
        Element outer = element().getEnclosingElement();
        if (outer.getKind() != ElementKind.PACKAGE
                && (!outer.getKind().isClass() || !element().getModifiers().contains(Modifier.STATIC))) {
            not("a class that is not static inside another", tree);
        }
        int fields = 0;
        for (Tree member : tree.getMembers()) {
            if (member instanceof VariableTree field && !field.getModifiers().getFlags().contains(Modifier.STATIC)) {
                fields++;
            }
            if (member instanceof BlockTree) {
                not("a block of a class", member);
            }
        }
        check.due(tree.getSimpleName() + ": more than twenty fields", fields > 20, false);
        return super.visitClass(tree, none);
    }

    // Rules 1, 6 and 11: names, "at most seven parameters", "some sixty lines"
    @Override
    public Void visitMethod(MethodTree tree, Void none) {
        callsOf.putIfAbsent(element(), new HashSet<>());
        if (Set.of("equals", "hashCode", "toString", "finalize", "clone").contains(tree.getName().toString())) {
            not("a method of Object", tree);
        }
        if (tree.getParameters().size() > 7) {
            not("more than seven parameters", tree);
        }
        long from = unit.getLineMap().getLineNumber(trees.getSourcePositions().getStartPosition(unit, tree));
        long to = unit.getLineMap().getLineNumber(Math.max(0, trees.getSourcePositions().getEndPosition(unit, tree)));
        if (to - from >= 60) {
            not("more than sixty lines", tree);
        }
        return super.visitMethod(tree, none);
    }

    // Rules 3 and 5: "arrays of these and of your own classes", "Static fields are final: constants"
    @Override
    public Void visitVariable(VariableTree tree, Void none) {
        VariableElement variable = (VariableElement) element();
        String type = variable.asType().toString();
        if (!TYPES.contains(type) && !type.startsWith("SnowPumps.")) {
            not("the type " + type, tree);
        }
        if (variable.getModifiers().contains(Modifier.STATIC) && variable.getConstantValue() == null) {
            not("a static field that is no constant", tree);
        }
        return super.visitVariable(tree, none);
    }

    // Rule 4
    @Override
    public Void visitMethodInvocation(MethodInvocationTree tree, Void none) {
        Element called = element();
        String name = called.getEnclosingElement() + "." + called.getSimpleName();
        if (isOwn(called)) {
            callsOf.computeIfAbsent(caller(), key -> new HashSet<>()).add(called);
        } else if (!CALLS.contains(name) && !name.equals("java.lang.Object.<init>")) {
            not("a call of " + name, tree);
        }
        return super.visitMethodInvocation(tree, none);
    }

    private Element caller() {
        TreePath path = getCurrentPath();
        while (!(path.getLeaf() instanceof MethodTree)) {
            path = path.getParentPath();
        }
        return trees.getElement(path);
    }

    // Rule 12, and NOTES.md: no call makes an object but the exceptions that it throws.
    @Override
    public Void visitNewClass(NewClassTree tree, Void none) {
        Element made = element().getEnclosingElement();
        boolean thrown = getCurrentPath().getParentPath().getLeaf() instanceof ThrowTree;
        if (tree.getClassBody() != null || !isOwn(made) && !(thrown && EXCEPTIONS.contains(made.toString()))) {
            not("a new " + made, tree);
        }
        if (isOwn(made) && !isInConstructor()) {
            not("an object made by a call", tree);
        }
        return super.visitNewClass(tree, none);
    }

    @Override
    public Void visitNewArray(NewArrayTree tree, Void none) {
        if (enclosingMethod() != null && !isInConstructor()) {
            not("an array made by a call", tree);
        }
        return super.visitNewArray(tree, none);
    }

    private boolean isInConstructor() {
        MethodTree method = enclosingMethod();
        return method != null && method.getReturnType() == null;
    }

    // Rule 6: "throw new E() or throw new E("a written text")", "no throw in a constructor"
    @Override
    public Void visitThrow(ThrowTree tree, Void none) {
        boolean written = tree.getExpression() instanceof NewClassTree made
                && made.getArguments().stream().allMatch(text -> text instanceof LiteralTree);
        if (!written || isInConstructor()) {
            not("a throw", tree);
        }
        return super.visitThrow(tree, none);
    }

    // Rule 9: "an end that can be seen from its own lines"
    @Override
    public Void visitForLoop(ForLoopTree tree, Void none) {
        if (!(tree.getCondition() instanceof BinaryTree) || tree.getUpdate().size() != 1) {
            not("a loop without an end to be seen", tree);
        }
        return super.visitForLoop(tree, none);
    }

    // Rule 10: "joining texts by StringBuilder (not by +)"
    @Override
    public Void visitBinary(BinaryTree tree, Void none) {
        if (trees.getTypeMirror(getCurrentPath()).toString().contains("String")) {
            not("joined texts", tree);
        }
        return super.visitBinary(tree, none);
    }

    @Override
    public Void visitWhileLoop(WhileLoopTree tree, Void none) {
        not("a while", tree);
        return super.visitWhileLoop(tree, none);
    }

    @Override
    public Void visitDoWhileLoop(DoWhileLoopTree tree, Void none) {
        not("a do", tree);
        return super.visitDoWhileLoop(tree, none);
    }

    @Override
    public Void visitTry(TryTree tree, Void none) {
        not("a try", tree);
        return super.visitTry(tree, none);
    }

    @Override
    public Void visitSynchronized(SynchronizedTree tree, Void none) {
        not("a synchronized", tree);
        return super.visitSynchronized(tree, none);
    }

    @Override
    public Void visitAssert(AssertTree tree, Void none) {
        not("an assert", tree);
        return super.visitAssert(tree, none);
    }

    @Override
    public Void visitLambdaExpression(LambdaExpressionTree tree, Void none) {
        not("a lambda", tree);
        return super.visitLambdaExpression(tree, none);
    }

    @Override
    public Void visitMemberReference(MemberReferenceTree tree, Void none) {
        not("a method reference", tree);
        return super.visitMemberReference(tree, none);
    }

    @Override
    public Void visitInstanceOf(InstanceOfTree tree, Void none) {
        not("an instanceof", tree);
        return super.visitInstanceOf(tree, none);
    }

    @Override
    public Void visitTypeCast(TypeCastTree tree, Void none) {
        if (!tree.getType().toString().equals("double")) {
            not("a cast", tree);
        }
        return super.visitTypeCast(tree, none);
    }
}
