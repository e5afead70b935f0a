import com.sun.source.tree.ArrayTypeTree;
import com.sun.source.tree.AssertTree;
import com.sun.source.tree.BinaryTree;
import com.sun.source.tree.ClassTree;
import com.sun.source.tree.CompilationUnitTree;
import com.sun.source.tree.CompoundAssignmentTree;
import com.sun.source.tree.DoWhileLoopTree;
import com.sun.source.tree.ForLoopTree;
import com.sun.source.tree.LambdaExpressionTree;
import com.sun.source.tree.LiteralTree;
import com.sun.source.tree.MemberReferenceTree;
import com.sun.source.tree.MethodInvocationTree;
import com.sun.source.tree.MethodTree;
import com.sun.source.tree.NewClassTree;
import com.sun.source.tree.SynchronizedTree;
import com.sun.source.tree.ThrowTree;
import com.sun.source.tree.Tree;
import com.sun.source.tree.TryTree;
import com.sun.source.tree.TypeCastTree;
import com.sun.source.tree.VariableTree;
import com.sun.source.tree.WhileLoopTree;
import com.sun.source.util.JavacTask;
import com.sun.source.util.SourcePositions;
import com.sun.source.util.TreePathScanner;
import com.sun.source.util.Trees;
import java.io.IOException;
import java.nio.file.Path;
import java.util.HashMap;
import java.util.HashSet;
import java.util.LinkedHashMap;
import java.util.LinkedHashSet;
import java.util.List;
import java.util.Map;
import java.util.Set;
import javax.lang.model.element.Element;
import javax.lang.model.element.ElementKind;
import javax.lang.model.element.Modifier;
import javax.lang.model.element.TypeElement;
import javax.lang.model.type.TypeKind;
import javax.lang.model.type.TypeMirror;
import javax.tools.JavaCompiler;
import javax.tools.StandardJavaFileManager;
import javax.tools.ToolProvider;

/**
 * The rules of LANGUAGE.md that the compiler's own tree of the class can tell. Where the class does without
 * something that a rule allows (recursion, division, lists), the test is as strict as the class is.
 */
public final class LanguageTest extends TreePathScanner<Void, Void> {
    private static final Path MAIN = Path.of("src/main/java/RefactoringReplay.java");
    private static final int MOST_PARAMETERS = 7;
    private static final int MOST_LINES = 60;
    private static final int MOST_DEPTH = 8;
    private static final int MOST_CLASSES = 12;
    private static final int MOST_FIELDS = 20;
    private static final Set<String> LIBRARY = Set.of("java.lang.Math.max", "java.lang.Math.min",
            "java.lang.Integer.bitCount", "java.lang.Long.bitCount", "java.lang.System.arraycopy",
            "java.util.Arrays.fill");
    private static final Set<String> EXCEPTIONS = Set.of("java.lang.IllegalStateException",
            "java.lang.IllegalArgumentException", "java.lang.IndexOutOfBoundsException");

    private final Trees trees;
    private final SourcePositions places;
    private final CompilationUnitTree unit;
    private final Map<Element, Set<Element>> calls = new LinkedHashMap<>();
    private final Map<Element, Integer> depths = new HashMap<>();
    private final Set<String> publicNames = new HashSet<>();
    private final Set<String> hiddenNames = new LinkedHashSet<>();
    private Element method;
    private int classes;

    private LanguageTest(Trees trees, CompilationUnitTree unit) {
        this.trees = trees;
        this.places = trees.getSourcePositions();
        this.unit = unit;
    }

    public static void main(String[] args) throws IOException {
        JavaCompiler compiler = ToolProvider.getSystemJavaCompiler();
        try (StandardJavaFileManager files = compiler.getStandardFileManager(null, null, null)) {
            JavacTask task = (JavacTask) compiler.getTask(null, files, null, List.of("--release", "17"), null,
                    files.getJavaFileObjects(MAIN));
            CompilationUnitTree unit = task.parse().iterator().next();
            task.analyze();
            LanguageTest test = new LanguageTest(Trees.instance(task), unit);
            test.scan(unit, null);
            test.checkWhole();
        }
        Due.end();
    }

    private void checkWhole() {
        Due.same("has no package", unit.getPackage() == null, true);
        Due.same("has one class outside", unit.getTypeDecls().size(), 1);
        Due.same("rule 11: has " + classes + " classes; fewer than thirteen", classes <= MOST_CLASSES, true);
        for (String name : hiddenNames) {
            Due.same("rule 1: " + name + " is private and public", publicNames.contains(name), false);
        }
        for (Element caller : calls.keySet()) {
            int depth = depthOf(caller, new LinkedHashSet<>());
            Due.same("rule 11: " + caller + " goes " + depth + " deep; at most eight", depth <= MOST_DEPTH, true);
        }
        Due.same("methods were seen", calls.size() > 100, true);
    }

    /** How many calls stand open at most, this one and the library's included. */
    private int depthOf(Element caller, Set<Element> open) {
        if (!open.add(caller)) {
            Due.same("rule 8: recursion in " + open, true, false);
            return 0;
        }
        Integer known = depths.get(caller);
        int deepest = 0;
        if (known == null) {
            for (Element callee : calls.getOrDefault(caller, Set.of())) {
                deepest = Math.max(deepest, depthOf(callee, open));
            }
            known = deepest + 1;
            depths.put(caller, known);
        }
        open.remove(caller);
        return known;
    }

    private Element here() {
        return trees.getElement(getCurrentPath());
    }

    private TypeMirror type() {
        return trees.getTypeMirror(getCurrentPath());
    }

    private void refuse(String rule, Tree tree) {
        long line = unit.getLineMap().getLineNumber(places.getStartPosition(unit, tree));
        Due.same(rule + ", line " + line + ": " + tree, true, false);
    }

    private boolean isOurs(Element element) {
        Element outside = element;
        while (outside.getEnclosingElement().getKind() != ElementKind.PACKAGE) {
            outside = outside.getEnclosingElement();
        }
        return outside.getSimpleName().contentEquals("RefactoringReplay");
    }

    @Override
    public Void visitClass(ClassTree tree, Void none) {
        classes++;
        TypeElement type = (TypeElement) here();
        Set<Modifier> modifiers = type.getModifiers();
        if (type.getEnclosingElement().getKind() == ElementKind.PACKAGE) {
            Due.same("rule 1: public and final", modifiers.containsAll(Set.of(Modifier.PUBLIC, Modifier.FINAL)), true);
        } else {
            Due.same("rule 1: static and hidden " + type, modifiers.contains(Modifier.STATIC)
                    && !modifiers.contains(Modifier.PUBLIC) && !modifiers.contains(Modifier.PROTECTED), true);
        }
        long fields = type.getEnclosedElements().stream()
                .filter(e -> e.getKind() == ElementKind.FIELD && !e.getModifiers().contains(Modifier.STATIC)).count();
        Due.same("rule 11: " + type + " has " + fields + " fields; few", fields <= MOST_FIELDS, true);
        return super.visitClass(tree, none);
    }

    @Override
    public Void visitMethod(MethodTree tree, Void none) {
        Element outer = method;
        method = here();
        calls.put(method, new LinkedHashSet<>());
        boolean open = method.getModifiers().contains(Modifier.PUBLIC);
        (open ? publicNames : hiddenNames).add(method.toString().replaceAll("\\(.*", ""));
        boolean ofTheFace = method.getEnclosingElement().getSimpleName().contentEquals("RefactoringReplay");
        Due.same("rule 1: public or private " + method,
                !ofTheFace || open || method.getModifiers().contains(Modifier.PRIVATE), true);
        Due.same("rule 11: parameters of " + method, tree.getParameters().size() <= MOST_PARAMETERS, true);
        Due.same("rule 11: lines of " + method, lines(tree) <= MOST_LINES, true);
        super.visitMethod(tree, none);
        method = outer;
        return null;
    }

    private long lines(Tree tree) {
        return unit.getLineMap().getLineNumber(places.getEndPosition(unit, tree))
                - unit.getLineMap().getLineNumber(places.getStartPosition(unit, tree)) + 1;
    }

    @Override
    public Void visitMethodInvocation(MethodInvocationTree tree, Void none) {
        Element called = here();
        String name = called.getEnclosingElement() + "." + called.getSimpleName();
        boolean hiddenSuper = name.equals("java.lang.Object.<init>");
        if (!hiddenSuper && method != null) {
            calls.get(method).add(called);
        }
        if (!hiddenSuper && !isOurs(called) && !LIBRARY.contains(name)) {
            refuse("rule 4: the library's " + name, tree);
        }
        return super.visitMethodInvocation(tree, none);
    }

    @Override
    public Void visitNewClass(NewClassTree tree, Void none) {
        Element made = here();
        Tree around = getCurrentPath().getParentPath().getLeaf();
        if (isOurs(made)) {
            calls.get(method).add(made);
            Due.same("made in a constructor: " + tree, method.getKind() == ElementKind.CONSTRUCTOR, true);
        } else if (!EXCEPTIONS.contains(made.getEnclosingElement().toString()) || !(around instanceof ThrowTree)) {
            refuse("rule 6: makes", tree);
        } else {
            boolean written = tree.getArguments().stream().allMatch(a -> a instanceof LiteralTree);
            Due.same("rule 6: a written text: " + tree, written, true);
        }
        return super.visitNewClass(tree, none);
    }

    @Override
    public Void visitThrow(ThrowTree tree, Void none) {
        if (method.getKind() == ElementKind.CONSTRUCTOR || !(tree.getExpression() instanceof NewClassTree)) {
            refuse("rule 6", tree);
        }
        return super.visitThrow(tree, none);
    }

    @Override
    public Void visitVariable(VariableTree tree, Void none) {
        Element variable = here();
        Set<Modifier> modifiers = variable.getModifiers();
        TypeMirror type = variable.asType();
        if (variable.getKind() == ElementKind.FIELD && modifiers.contains(Modifier.STATIC)) {
            Due.same("rule 5: " + tree, modifiers.contains(Modifier.FINAL) && type.getKind().isPrimitive(), true);
        } else if (variable.getKind() == ElementKind.FIELD
                && variable.getEnclosingElement().getSimpleName().contentEquals("RefactoringReplay")) {
            Due.same("rule 1: private " + tree, modifiers.contains(Modifier.PRIVATE), true);
        }
        Due.same("rule 3: a number or an own class: " + tree, isAllowed(type), true);
        return super.visitVariable(tree, none);
    }

    private boolean isAllowed(TypeMirror type) {
        if (type.getKind().isPrimitive()) {
            return type.getKind() != TypeKind.DOUBLE && type.getKind() != TypeKind.FLOAT;
        }
        return type.toString().matches("(int|long|RefactoringReplay\\.\\w+)(\\[\\])?");
    }

    @Override
    public Void visitArrayType(ArrayTypeTree tree, Void none) {
        if (tree.getType() instanceof ArrayTypeTree) {
            refuse("rule 3: rows of rows", tree);
        }
        return super.visitArrayType(tree, none);
    }

    @Override
    public Void visitTypeCast(TypeCastTree tree, Void none) {
        if (!type().getKind().isPrimitive()) {
            refuse("rule 7: a cast", tree);
        }
        return super.visitTypeCast(tree, none);
    }

    @Override
    public Void visitBinary(BinaryTree tree, Void none) {
        if (tree.getKind() == Tree.Kind.DIVIDE || tree.getKind() == Tree.Kind.REMAINDER) {
            refuse("rule 7: a divisor", tree);
        }
        if (!type().getKind().isPrimitive()) {
            refuse("rule 10: joined texts", tree);
        }
        return super.visitBinary(tree, none);
    }

    @Override
    public Void visitCompoundAssignment(CompoundAssignmentTree tree, Void none) {
        if (tree.getKind() == Tree.Kind.DIVIDE_ASSIGNMENT || tree.getKind() == Tree.Kind.REMAINDER_ASSIGNMENT) {
            refuse("rule 7: a divisor", tree);
        }
        return super.visitCompoundAssignment(tree, none);
    }

    @Override
    public Void visitForLoop(ForLoopTree tree, Void none) {
        if (tree.getCondition() == null || tree.getUpdate().size() != 1) {
            refuse("rule 9: a loop without an end", tree);
        }
        return super.visitForLoop(tree, none);
    }

    @Override
    public Void visitWhileLoop(WhileLoopTree tree, Void none) {
        refuse("rule 9: a loop without a counter", tree);
        return super.visitWhileLoop(tree, none);
    }

    @Override
    public Void visitDoWhileLoop(DoWhileLoopTree tree, Void none) {
        refuse("rule 9: a loop without a counter", tree);
        return super.visitDoWhileLoop(tree, none);
    }

    @Override
    public Void visitTry(TryTree tree, Void none) {
        refuse("rule 6: nothing is caught", tree);
        return super.visitTry(tree, none);
    }

    @Override
    public Void visitLambdaExpression(LambdaExpressionTree tree, Void none) {
        refuse("rule 2", tree);
        return super.visitLambdaExpression(tree, none);
    }

    @Override
    public Void visitMemberReference(MemberReferenceTree tree, Void none) {
        refuse("rule 2", tree);
        return super.visitMemberReference(tree, none);
    }

    @Override
    public Void visitSynchronized(SynchronizedTree tree, Void none) {
        refuse("rule 6", tree);
        return super.visitSynchronized(tree, none);
    }

    @Override
    public Void visitAssert(AssertTree tree, Void none) {
        refuse("rule 6", tree);
        return super.visitAssert(tree, none);
    }
}
