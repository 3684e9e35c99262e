import com.sun.source.tree.AssertTree;
import com.sun.source.tree.BinaryTree;
import com.sun.source.tree.CatchTree;
import com.sun.source.tree.ClassTree;
import com.sun.source.tree.CompilationUnitTree;
import com.sun.source.tree.CompoundAssignmentTree;
import com.sun.source.tree.DoWhileLoopTree;
import com.sun.source.tree.ExpressionTree;
import com.sun.source.tree.ForLoopTree;
import com.sun.source.tree.ImportTree;
import com.sun.source.tree.LambdaExpressionTree;
import com.sun.source.tree.LiteralTree;
import com.sun.source.tree.MemberReferenceTree;
import com.sun.source.tree.MethodInvocationTree;
import com.sun.source.tree.MethodTree;
import com.sun.source.tree.NewArrayTree;
import com.sun.source.tree.NewClassTree;
import com.sun.source.tree.SynchronizedTree;
import com.sun.source.tree.ThrowTree;
import com.sun.source.tree.Tree;
import com.sun.source.tree.TryTree;
import com.sun.source.tree.TypeCastTree;
import com.sun.source.tree.VariableTree;
import com.sun.source.tree.WhileLoopTree;
import com.sun.source.util.JavacTask;
import com.sun.source.util.TreePath;
import com.sun.source.util.TreePathScanner;
import com.sun.source.util.Trees;
import java.io.IOException;
import java.nio.charset.StandardCharsets;
import java.nio.file.Files;
import java.nio.file.Path;
import java.util.LinkedHashMap;
import java.util.LinkedHashSet;
import java.util.List;
import java.util.Map;
import java.util.Set;
import javax.lang.model.element.Element;
import javax.lang.model.element.ElementKind;
import javax.lang.model.element.Modifier;
import javax.lang.model.element.TypeElement;
import javax.lang.model.type.TypeMirror;
import javax.tools.JavaCompiler;
import javax.tools.StandardJavaFileManager;
import javax.tools.ToolProvider;

/** The source keeps to what of LANGUAGE.md can be seen in it, as the compiler itself reads it. */
public final class LanguageTest extends TreePathScanner<Void, Void> {
    private static final int MOST_DEEP = 8;
    private static final int MOST_LINES = 60;
    private static final Set<String> THROWN = Set.of("IllegalStateException", "IllegalArgumentException", "IndexOutOfBoundsException",
        "ArithmeticException", "UnsupportedOperationException", "NoSuchElementException", "RuntimeException");
    // Of the library that rule 4 lists, what this class calls; a call that is new is to be looked up there first.
    private static final Set<String> LIBRARY = Set.of("java.lang.Math.max", "java.lang.Math.min", "java.lang.Math.floorMod",
        "java.lang.String.length", "java.lang.String.charAt");
    private static final Set<String> TYPES = Set.of("int", "int[]", "long", "long[]", "char", "char[]", "boolean", "boolean[]",
        "java.lang.String");

    private final Check check = new Check();
    private final Trees trees;
    private final CompilationUnitTree unit;
    private final Map<Element, Set<Element>> calls = new LinkedHashMap<>();
    private int classes = 0;

    private LanguageTest(Trees trees, CompilationUnitTree unit) {
        this.trees = trees;
        this.unit = unit;
    }

    public static void main(String[] args) throws IOException {
        Path source = Path.of(args[1]);
        JavaCompiler compiler = ToolProvider.getSystemJavaCompiler();
        try (StandardJavaFileManager files = compiler.getStandardFileManager(null, null, StandardCharsets.UTF_8)) {
            JavacTask task = (JavacTask) compiler.getTask(null, files, null, List.of("-proc:none"), null, files.getJavaFileObjects(source));
            CompilationUnitTree unit = task.parse().iterator().next();
            task.analyze();
            LanguageTest test = new LanguageTest(Trees.instance(task), unit);
            test.scan(unit, null);
            test.wholeFile(Files.readString(source, StandardCharsets.ISO_8859_1));
            test.check.end("LanguageTest");
        }
    }

    private void refuse(String rule, Tree tree) {
        allow(rule, tree, false);
    }

    private void allow(String rule, Tree tree, boolean good) {
        long line = unit.getLineMap().getLineNumber(trees.getSourcePositions().getStartPosition(unit, tree));
        check.due("line " + line + ": " + rule, good, true);
    }

    private Element elementOf(Tree tree) {
        return trees.getElement(new TreePath(getCurrentPath(), tree));
    }

    private TypeMirror typeOf(Tree tree) {
        return trees.getTypeMirror(new TreePath(getCurrentPath(), tree));
    }

    /** The method or constructor around; null in a field. */
    private MethodTree method() {
        for (Tree tree : getCurrentPath()) {
            if (tree instanceof MethodTree m) {
                return m;
            }
            if (tree instanceof ClassTree) {
                return null;
            }
        }
        return null;
    }

    private boolean isMadeWithTheDesk() {
        return method() == null || isConstructor(method());
    }

    private static boolean isConstructor(MethodTree m) {
        return m.getName().contentEquals("<init>");
    }

    private static boolean isOwn(Element e) {
        Element top = e;
        while (top.getEnclosingElement().getKind() != ElementKind.PACKAGE) {
            top = top.getEnclosingElement();
        }
        return top.getSimpleName().contentEquals("ModeDesk");
    }

    // ---- rule by rule ----

    private void wholeFile(String source) {
        check.due("rule 3: signs 0 to 127 alone", source.chars().allMatch(c -> c < 128), true);
        check.due("no package line", unit.getPackageName() == null, true);
        check.due("rule 11: classes are few", classes <= 12, true);
        for (Element m : calls.keySet()) {
            check.due("rule 11: calls of " + m + " go no deeper than eight", deepFrom(m, 1) <= MOST_DEEP, true);
        }
    }

    /** Nine and more is all the same, so that a method that calls itself has an end here. */
    private int deepFrom(Element m, int deep) {
        int deepest = deep;
        for (Element called : calls.getOrDefault(m, Set.of())) {
            if (deepest <= MOST_DEEP) {
                deepest = Math.max(deepest, deepFrom(called, deep + 1));
            }
        }
        return deepest;
    }

    @Override
    public Void visitImport(ImportTree tree, Void none) {
        allow("rule 4: no such import", tree, tree.toString().trim().equals("import java.util.NoSuchElementException;"));
        return super.visitImport(tree, none);
    }

    @Override
    public Void visitClass(ClassTree tree, Void none) {
        classes++;
        boolean inside = getCurrentPath().getParentPath().getLeaf() instanceof ClassTree;
        Set<Modifier> flags = tree.getModifiers().getFlags();
        allow("rule 1: a class inside is static and not public, the outer one public and final", tree, inside
            ? flags.contains(Modifier.STATIC) && !flags.contains(Modifier.PUBLIC) && !flags.contains(Modifier.PROTECTED)
            : flags.contains(Modifier.PUBLIC) && flags.contains(Modifier.FINAL));
        int fields = 0;
        for (Tree member : tree.getMembers()) {
            boolean isField = member instanceof VariableTree;
            fields += isField && !((VariableTree) member).getModifiers().getFlags().contains(Modifier.STATIC) ? 1 : 0;
            allow("rule 5: no initialiser block", member, member.getKind() != Tree.Kind.BLOCK);
        }
        allow("rule 11: fields are few", tree, fields <= 20);
        return super.visitClass(tree, none);
    }

    @Override
    public Void visitVariable(VariableTree tree, Void none) {
        Element e = trees.getElement(getCurrentPath());
        Set<Modifier> flags = tree.getModifiers().getFlags();
        if (e.getKind() == ElementKind.FIELD && flags.contains(Modifier.STATIC)) {
            allow("rule 5: a static field is a final number or text", tree, flags.contains(Modifier.FINAL) && tree.getInitializer() instanceof ExpressionTree
                && (e.asType().getKind().isPrimitive() || e.asType().toString().equals("java.lang.String")));
        }
        String type = e.asType().toString().replaceFirst("^ModeDesk\\.\\w+(\\[\\])?$", "int");
        allow("rule 3: a type that is not listed: " + type, tree, TYPES.contains(type));
        return super.visitVariable(tree, none);
    }

    @Override
    public Void visitMethod(MethodTree tree, Void none) {
        long from = unit.getLineMap().getLineNumber(trees.getSourcePositions().getStartPosition(unit, tree));
        long to = unit.getLineMap().getLineNumber(trees.getSourcePositions().getEndPosition(unit, tree));
        allow("rule 11: a method is short", tree, to - from < MOST_LINES);
        allow("rule 11: parameters are few", tree, tree.getParameters().size() <= 7);
        calls.computeIfAbsent(trees.getElement(getCurrentPath()), m -> new LinkedHashSet<>());
        return super.visitMethod(tree, none);
    }

    @Override
    public Void visitMethodInvocation(MethodInvocationTree tree, Void none) {
        Element called = elementOf(tree.getMethodSelect());
        TypeElement owner = (TypeElement) called.getEnclosingElement();
        String name = owner.getQualifiedName() + "." + called.getSimpleName();
        if (isOwn(called)) {
            allow("rule 12: a constructor calls none but static ones", tree, !isMadeWithTheDesk() || called.getModifiers().contains(Modifier.STATIC));
            if (method() != null) {
                calls.computeIfAbsent(elementOf(method()), m -> new LinkedHashSet<>()).add(called);
            }
        } else if (called.getKind() == ElementKind.METHOD) {
            allow("rule 4: a call of the library that is not listed here: " + name, tree, LIBRARY.contains(name));
        }
        return super.visitMethodInvocation(tree, none);
    }

    @Override
    public Void visitNewClass(NewClassTree tree, Void none) {
        boolean thrown = getCurrentPath().getParentPath().getLeaf() instanceof ThrowTree;
        allow("rule 12: rows are made with the desk, once", tree, thrown || isMadeWithTheDesk());
        allow("rule 2: no anonymous class", tree, tree.getClassBody() == null);
        return super.visitNewClass(tree, none);
    }

    @Override
    public Void visitNewArray(NewArrayTree tree, Void none) {
        allow("rule 12: rows are made with the desk, once", tree, isMadeWithTheDesk());
        return super.visitNewArray(tree, none);
    }

    @Override
    public Void visitThrow(ThrowTree tree, Void none) {
        boolean good = tree.getExpression() instanceof NewClassTree made && THROWN.contains(made.getIdentifier().toString())
            && made.getArguments().size() <= 1 && made.getArguments().stream().allMatch(a -> a instanceof LiteralTree);
        allow("rule 6: throw new E() or throw new E(\"a written text\")", tree, good);
        allow("rule 6: no throw in a constructor or an initialiser", tree, !isMadeWithTheDesk());
        return super.visitThrow(tree, none);
    }

    @Override
    public Void visitTry(TryTree tree, Void none) {
        allow("rule 6: no finally, no resources", tree, tree.getFinallyBlock() == null && tree.getResources().isEmpty());
        allow("rule 6: no try in the method that holds the throw", tree, !method().getBody().toString().contains("throw "));
        return super.visitTry(tree, none);
    }

    @Override
    public Void visitCatch(CatchTree tree, Void none) {
        allow("rule 6: a catch of the listed classes", tree, THROWN.contains(tree.getParameter().getType().toString()));
        return super.visitCatch(tree, none);
    }

    @Override
    public Void visitBinary(BinaryTree tree, Void none) {
        joined(tree, tree.getKind() == Tree.Kind.PLUS);
        boolean compared = tree.getKind() == Tree.Kind.EQUAL_TO || tree.getKind() == Tree.Kind.NOT_EQUAL_TO;
        allow("rule 6: no == between texts", tree, !compared || !typeOf(tree.getLeftOperand()).toString().equals("java.lang.String"));
        return super.visitBinary(tree, none);
    }

    @Override
    public Void visitCompoundAssignment(CompoundAssignmentTree tree, Void none) {
        joined(tree, tree.getKind() == Tree.Kind.PLUS_ASSIGNMENT);
        return super.visitCompoundAssignment(tree, none);
    }

    private void joined(Tree tree, boolean added) {
        allow("rule 10: no texts joined by +", tree, !added || trees.getTypeMirror(getCurrentPath()).getKind().isPrimitive());
    }

    @Override
    public Void visitTypeCast(TypeCastTree tree, Void none) {
        allow("a cast of numbers alone", tree, typeOf(tree.getType()).getKind().isPrimitive());
        return super.visitTypeCast(tree, none);
    }

    @Override
    public Void visitForLoop(ForLoopTree tree, Void none) {
        bounded(tree, tree.getCondition());
        return super.visitForLoop(tree, none);
    }

    @Override
    public Void visitWhileLoop(WhileLoopTree tree, Void none) {
        bounded(tree, tree.getCondition());
        return super.visitWhileLoop(tree, none);
    }

    @Override
    public Void visitDoWhileLoop(DoWhileLoopTree tree, Void none) {
        bounded(tree, tree.getCondition());
        return super.visitDoWhileLoop(tree, none);
    }

    private void bounded(Tree loop, ExpressionTree condition) {
        String told = condition == null ? "" : condition.toString();
        allow("rule 9: a loop tells its bound", loop, told.contains("<") || told.contains(">"));
    }

    @Override
    public Void visitLambdaExpression(LambdaExpressionTree tree, Void none) {
        refuse("rule 2: no lambda", tree);
        return super.visitLambdaExpression(tree, none);
    }

    @Override
    public Void visitMemberReference(MemberReferenceTree tree, Void none) {
        refuse("rule 2: no method reference", tree);
        return super.visitMemberReference(tree, none);
    }

    @Override
    public Void visitAssert(AssertTree tree, Void none) {
        refuse("rule 6: no assert", tree);
        return super.visitAssert(tree, none);
    }

    @Override
    public Void visitSynchronized(SynchronizedTree tree, Void none) {
        refuse("rule 6: no synchronized", tree);
        return super.visitSynchronized(tree, none);
    }
}
