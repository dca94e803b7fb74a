import com.sun.source.tree.AssertTree;
import com.sun.source.tree.BinaryTree;
import com.sun.source.tree.BlockTree;
import com.sun.source.tree.ClassTree;
import com.sun.source.tree.CompilationUnitTree;
import com.sun.source.tree.DoWhileLoopTree;
import com.sun.source.tree.ExpressionTree;
import com.sun.source.tree.ForLoopTree;
import com.sun.source.tree.LambdaExpressionTree;
import com.sun.source.tree.LiteralTree;
import com.sun.source.tree.MemberReferenceTree;
import com.sun.source.tree.MethodInvocationTree;
import com.sun.source.tree.MethodTree;
import com.sun.source.tree.NewArrayTree;
import com.sun.source.tree.NewClassTree;
import com.sun.source.tree.ParenthesizedTree;
import com.sun.source.tree.SynchronizedTree;
import com.sun.source.tree.ThrowTree;
import com.sun.source.tree.Tree;
import com.sun.source.tree.TryTree;
import com.sun.source.tree.TypeCastTree;
import com.sun.source.tree.VariableTree;
import com.sun.source.tree.WhileLoopTree;
import com.sun.source.util.JavacTask;
import com.sun.source.util.TreePath;
import com.sun.source.util.TreePathScanner;
import com.sun.source.util.Trees;
import java.io.File;
import java.io.IOException;
import java.util.ArrayList;
import java.util.HashMap;
import java.util.LinkedHashSet;
import java.util.List;
import java.util.Map;
import java.util.Set;
import javax.lang.model.element.Element;
import javax.lang.model.element.ExecutableElement;
import javax.lang.model.element.Modifier;
import javax.lang.model.type.ArrayType;
import javax.lang.model.type.TypeMirror;
import javax.tools.JavaCompiler;
import javax.tools.StandardJavaFileManager;
import javax.tools.ToolProvider;

/**
 * The rules of LANGUAGE.md that the program's text shows. Where the program needs less than a rule
 * leaves, less is allowed here: no library but the exceptions, no try, and no object made by a call.
 */
public final class LanguageTest extends TreePathScanner<Void, Void> {
    private static final File PROGRAM = new File("src/main/java/RankedTrees.java");
    private static final Set<String> EXCEPTIONS = Set.of("IllegalStateException",
        "IllegalArgumentException", "IndexOutOfBoundsException", "NoSuchElementException");

    private final CompilationUnitTree unit;
    private final Trees trees;
    private final Map<Element, Set<Element>> calls = new HashMap<>();
    private int classes;

    private LanguageTest(CompilationUnitTree unit, Trees trees) {
        this.unit = unit;
        this.trees = trees;
    }

    public static void main(String[] args) throws IOException {
        JavaCompiler compiler = ToolProvider.getSystemJavaCompiler();
        try (StandardJavaFileManager files = compiler.getStandardFileManager(null, null, null)) {
            JavacTask task = (JavacTask) compiler.getTask(null, files, null,
                    List.of("-proc:none"), null, files.getJavaFileObjects(PROGRAM));
            CompilationUnitTree unit = task.parse().iterator().next();
            task.analyze();
            new LanguageTest(unit, Trees.instance(task)).check();
        }
        Check.end();
    }

    private void check() {
        Check.fails("a package line", unit.getPackage() != null);
        Check.same("classes outside", unit.getTypeDecls().size(), 1);
        Check.text("imports", unit.getImports().toString().trim(),
                "import java.util.NoSuchElementException;");
        scan(new TreePath(unit), null);
        Check.holds("at most twelve classes", classes <= 12);
        for (Element method : calls.keySet()) {
            List<Element> open = new ArrayList<>();
            Check.holds("calls below " + method + " go eight deep", depthUnder(method, open) <= 8);
        }
    }

    private void refuse(String what, Tree tree) {
        long place = trees.getSourcePositions().getStartPosition(unit, tree);
        Check.fails(what + " in line " + unit.getLineMap().getLineNumber(place), true);
    }

    private void allow(boolean fine, String what, Tree tree) {
        if (fine) {
            Check.holds(what, true);
        } else {
            refuse(what, tree);
        }
    }

    // Rule 11: "calls that are no recursion go at most eight deep"; rule 8 for those that are.
    private int depthUnder(Element method, List<Element> open) {
        open.add(method);
        int deepest = 0;
        for (Element called : calls.getOrDefault(method, Set.of())) {
            if (called.equals(method)) {
                checkRecursion((ExecutableElement) method);
            } else if (open.contains(called)) {
                Check.fails(method + " and " + called + " call one another", true);
            } else {
                deepest = Math.max(deepest, depthUnder(called, open));
            }
        }
        open.remove(method);
        return deepest + 1;
    }

    private static void checkRecursion(ExecutableElement method) {
        Set<Modifier> modifiers = method.getModifiers();
        Check.holds(method + " is private and static",
                modifiers.contains(Modifier.PRIVATE) && modifiers.contains(Modifier.STATIC));
        Check.holds(method + " carries its depth", method.getParameters().stream()
                .anyMatch(parameter -> parameter.getSimpleName().contentEquals("depth")));
    }

    private MethodTree methodAround() {
        TreePath path = getCurrentPath();
        while (path != null && !(path.getLeaf() instanceof MethodTree)) {
            path = path.getParentPath();
        }
        return path == null ? null : (MethodTree) path.getLeaf();
    }

    // Made with the object, or not at all: only a constructor and a field's beginning may do it.
    private boolean whileTheObjectIsMade() {
        MethodTree method = methodAround();
        return method == null || method.getName().contentEquals("<init>");
    }

    private boolean isOwn(TypeMirror type) {
        return type.toString().startsWith("RankedTrees");
    }

    private boolean isAllowed(TypeMirror type) {
        if (type instanceof ArrayType array) {
            return array.getComponentType().getKind().isPrimitive();
        }
        return type.getKind().isPrimitive() || isOwn(type);
    }

    // Rules 1, 2, 5 and 11.
    @Override
    public Void visitClass(ClassTree tree, Void none) {
        classes++;
        Set<Modifier> modifiers = tree.getModifiers().getFlags();
        boolean outer = getCurrentPath().getParentPath().getLeaf() == unit;
        allow(outer || modifiers.contains(Modifier.STATIC), "a static class", tree);
        allow(outer || modifiers.contains(Modifier.PRIVATE), "a private class", tree);
        allow(outer || getCurrentPath().getParentPath().getLeaf() instanceof ClassTree,
                "a class of the class", tree);
        int fields = 0;
        for (Tree member : tree.getMembers()) {
            allow(!(member instanceof BlockTree), "no block of its own", member);
            if (member instanceof VariableTree field
                    && !field.getModifiers().getFlags().contains(Modifier.STATIC)) {
                fields++;
            }
        }
        allow(fields <= 20, "at most twenty fields", tree);
        return super.visitClass(tree, none);
    }

    // Rules 3 and 5.
    @Override
    public Void visitVariable(VariableTree tree, Void none) {
        Element variable = trees.getElement(getCurrentPath());
        allow(isAllowed(variable.asType()), "the type of " + tree.getName(), tree);
        if (variable.getModifiers().contains(Modifier.STATIC)) {
            allow(variable.getModifiers().contains(Modifier.FINAL), "a final field", tree);
            allow(variable.asType().getKind().isPrimitive(), "a constant", tree);
        }
        return super.visitVariable(tree, none);
    }

    // Rule 11: "at most seven parameters", "Methods stay short (some sixty lines)".
    @Override
    public Void visitMethod(MethodTree tree, Void none) {
        allow(tree.getParameters().size() <= 7, "at most seven parameters", tree);
        long from = trees.getSourcePositions().getStartPosition(unit, tree);
        long to = trees.getSourcePositions().getEndPosition(unit, tree);
        if (to >= 0) {
            long lines = unit.getLineMap().getLineNumber(to) - unit.getLineMap().getLineNumber(from);
            allow(lines < 60, "a short method", tree);
        }
        return super.visitMethod(tree, none);
    }

    // Rule 4: no library; and the calls for rule 11.
    @Override
    public Void visitMethodInvocation(MethodInvocationTree tree, Void none) {
        Element called = trees.getElement(getCurrentPath());
        boolean construction = called.getSimpleName().contentEquals("<init>");
        allow(construction || isOwn(called.getEnclosingElement().asType()),
                "a call of " + called, tree);
        MethodTree around = methodAround();
        if (around != null && !construction) {
            Element caller = trees.getElement(trees.getPath(unit, around));
            calls.computeIfAbsent(caller, key -> new LinkedHashSet<>()).add(called);
        }
        return super.visitMethodInvocation(tree, none);
    }

    // Rule 12, and README.md: "no call makes an object, but for the exceptions that it throws".
    @Override
    public Void visitNewClass(NewClassTree tree, Void none) {
        boolean thrown = getCurrentPath().getParentPath().getLeaf() instanceof ThrowTree;
        allow(thrown || whileTheObjectIsMade(), "new " + tree.getIdentifier(), tree);
        allow(tree.getClassBody() == null, "no class without a name", tree);
        return super.visitNewClass(tree, none);
    }

    @Override
    public Void visitNewArray(NewArrayTree tree, Void none) {
        allow(whileTheObjectIsMade(), "a new row", tree);
        return super.visitNewArray(tree, none);
    }

    // Rule 6.
    @Override
    public Void visitThrow(ThrowTree tree, Void none) {
        boolean fine = tree.getExpression() instanceof NewClassTree made
                && EXCEPTIONS.contains(made.getIdentifier().toString())
                && made.getArguments().stream().allMatch(LiteralTree.class::isInstance);
        allow(fine && !whileTheObjectIsMade(), "throw new E(a written text)", tree);
        return super.visitThrow(tree, none);
    }

    @Override
    public Void visitTypeCast(TypeCastTree tree, Void none) {
        allow(trees.getTypeMirror(getCurrentPath()).getKind().isPrimitive(), "a cast", tree);
        return super.visitTypeCast(tree, none);
    }

    @Override
    public Void visitTry(TryTree tree, Void none) {
        refuse("try", tree);
        return null;
    }

    @Override
    public Void visitAssert(AssertTree tree, Void none) {
        refuse("assert", tree);
        return null;
    }

    @Override
    public Void visitSynchronized(SynchronizedTree tree, Void none) {
        refuse("synchronized", tree);
        return null;
    }

    @Override
    public Void visitLambdaExpression(LambdaExpressionTree tree, Void none) {
        refuse("a lambda", tree);
        return null;
    }

    @Override
    public Void visitMemberReference(MemberReferenceTree tree, Void none) {
        refuse("a method reference", tree);
        return null;
    }

    // Rule 9: an end that is not tested in the loop's own lines cannot be seen there.
    private void checkLoop(ExpressionTree condition, Tree loop) {
        ExpressionTree bare = condition;
        while (bare instanceof ParenthesizedTree around) {
            bare = around.getExpression();
        }
        allow(bare instanceof BinaryTree, "a loop's end", loop);
    }

    @Override
    public Void visitForLoop(ForLoopTree tree, Void none) {
        checkLoop(tree.getCondition(), tree);
        return super.visitForLoop(tree, none);
    }

    @Override
    public Void visitWhileLoop(WhileLoopTree tree, Void none) {
        checkLoop(tree.getCondition(), tree);
        return super.visitWhileLoop(tree, none);
    }

    @Override
    public Void visitDoWhileLoop(DoWhileLoopTree tree, Void none) {
        checkLoop(tree.getCondition(), tree);
        return super.visitDoWhileLoop(tree, none);
    }

    // Rule 10: texts are not joined by +; and neither is any made of numbers.
    @Override
    public Void visitBinary(BinaryTree tree, Void none) {
        allow(trees.getTypeMirror(getCurrentPath()).getKind().isPrimitive(), "an operator", tree);
        return super.visitBinary(tree, none);
    }
}
