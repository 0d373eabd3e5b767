import com.sun.source.tree.AssertTree;
import com.sun.source.tree.BinaryTree;
import com.sun.source.tree.CatchTree;
import com.sun.source.tree.ClassTree;
import com.sun.source.tree.CompilationUnitTree;
import com.sun.source.tree.CompoundAssignmentTree;
import com.sun.source.tree.DoWhileLoopTree;
import com.sun.source.tree.ExpressionTree;
import com.sun.source.tree.ForLoopTree;
import com.sun.source.tree.LambdaExpressionTree;
import com.sun.source.tree.MemberReferenceTree;
import com.sun.source.tree.MethodInvocationTree;
import com.sun.source.tree.MethodTree;
import com.sun.source.tree.NewArrayTree;
import com.sun.source.tree.NewClassTree;
import com.sun.source.tree.SynchronizedTree;
import com.sun.source.tree.ThrowTree;
import com.sun.source.tree.Tree;
import com.sun.source.tree.TryTree;
import com.sun.source.tree.TypeCastTree;
import com.sun.source.tree.VariableTree;
import com.sun.source.tree.WhileLoopTree;
import com.sun.source.util.JavacTask;
import com.sun.source.util.TreePath;
import com.sun.source.util.TreePathScanner;
import com.sun.source.util.Trees;
import java.io.File;
import java.io.IOException;
import java.nio.file.Files;
import java.util.ArrayList;
import java.util.HashMap;
import java.util.LinkedHashSet;
import java.util.List;
import java.util.Map;
import java.util.Set;
import java.util.TreeSet;
import javax.lang.model.element.Element;
import javax.lang.model.element.ElementKind;
import javax.lang.model.element.ExecutableElement;
import javax.lang.model.element.Modifier;
import javax.lang.model.type.TypeKind;
import javax.lang.model.type.TypeMirror;
import javax.tools.JavaCompiler;
import javax.tools.StandardJavaFileManager;
import javax.tools.ToolProvider;

/** The rules of LANGUAGE.md, as far as the compiler's own tree of the source shows them; the names tell the rules' numbers. */
public final class LanguageTest extends TreePathScanner<Void, Void> {
    /** Of rule 4 what the class needs; more of that rule may be put here when it is needed. */
    private static final Set<String> LIBRARY = Set.of("java.lang.String.length", "java.lang.String.charAt", "java.lang.Math.abs", "java.lang.Math.max",
            "java.lang.Math.min", "java.lang.Integer.bitCount", "java.lang.System.arraycopy", "java.lang.Object.<init>");
    private static final Set<String> NUMBERS = Set.of("int", "long", "short", "byte", "char", "boolean");
    private static final Set<String> CONSTANTS = Set.of("int", "long", "boolean", "char", "java.lang.String");

    private final Trees trees;
    private final CompilationUnitTree unit;
    private final Map<Element, Set<Element>> calls = new HashMap<>();
    private final Set<String> ownClasses = new TreeSet<>();

    private LanguageTest(Trees trees, CompilationUnitTree unit) {
        this.trees = trees;
        this.unit = unit;
    }

    public static void main(String[] args) throws IOException {
        File source = new File(args.length > 0 ? args[0] : "src/main/java/RoofGale.java");
        JavaCompiler compiler = ToolProvider.getSystemJavaCompiler();
        try (StandardJavaFileManager files = compiler.getStandardFileManager(null, null, null)) {
            JavacTask task = (JavacTask) compiler.getTask(null, files, null, List.of("-proc:none"), null, files.getJavaFileObjects(source));
            CompilationUnitTree unit = task.parse().iterator().next();
            task.analyze();
            new LanguageTest(Trees.instance(task), unit).all();
        }
        boolean plain = Files.readString(source.toPath()).chars().allMatch(c -> c == '\n' || c >= 32 && c < 127);
        Check.due("3, 4: signs of the file are 32 to 126 alone", plain, true);
        Check.end("LanguageTest");
    }

    private void all() {
        Check.due("1: no package", unit.getPackageName() == null, true);
        Check.due("4: imports", unit.getImports().size(), 0);
        Check.due("1: one class in the file", unit.getTypeDecls().size(), 1);
        new TreePathScanner<Void, Void>() {
            @Override
            public Void visitClass(ClassTree tree, Void none) {
                ownClasses.add(trees.getElement(getCurrentPath()).asType().toString());
                return super.visitClass(tree, none);
            }
        }.scan(unit, null);
        scan(unit, null);
        Check.due("11: classes", ownClasses.size() <= 12, true);
        for (Element method : calls.keySet()) {
            int deep = deepFrom(method, new LinkedHashSet<>());
            Check.due("8, 11: " + method.getEnclosingElement() + "." + method + " goes " + deep + " deep", deep <= 8, true);
        }
    }

    // ---- members

    @Override
    public Void visitClass(ClassTree tree, Void none) {
        Element element = element(tree);
        boolean outer = element.getEnclosingElement().getKind() == ElementKind.PACKAGE;
        boolean inner = element.getEnclosingElement().getKind() == ElementKind.CLASS;
        boolean open = element.getModifiers().contains(Modifier.PUBLIC) || element.getModifiers().contains(Modifier.PROTECTED);
        Check.due("1, 2: " + element + " is nested, static and not open", outer || inner && element.getModifiers().contains(Modifier.STATIC) && !open, true);
        long fields = tree.getMembers().stream().filter(m -> m instanceof VariableTree v && !v.getModifiers().getFlags().contains(Modifier.STATIC)).count();
        Check.due("11: fields of " + element + ": " + fields, fields <= 20, true);
        boolean block = tree.getMembers().stream().anyMatch(m -> m.getKind() == Tree.Kind.BLOCK);
        Check.due("5: " + element + " has a block among its members", block, false);
        return super.visitClass(tree, none);
    }

    @Override
    public Void visitVariable(VariableTree tree, Void none) {
        Element element = element(tree);
        String type = element.asType().toString();
        Check.due("3: " + type + " of " + tree.getName(), isFine(element.asType()), true);
        if (element.getKind() == ElementKind.FIELD && element.getModifiers().contains(Modifier.STATIC)) {
            Check.due("5: " + tree.getName() + " is final", element.getModifiers().contains(Modifier.FINAL), true);
            Check.due("5: " + tree.getName() + " is a constant", CONSTANTS.contains(type), true);
        }
        return super.visitVariable(tree, none);
    }

    @Override
    public Void visitMethod(MethodTree tree, Void none) {
        ExecutableElement element = (ExecutableElement) element(tree);
        calls.computeIfAbsent(element, e -> new LinkedHashSet<>());
        Check.due("11: parameters of " + element, element.getParameters().size() <= 7, true);
        long from = unit.getLineMap().getLineNumber(trees.getSourcePositions().getStartPosition(unit, tree));
        // a constructor that the compiler puts in has no end
        long end = trees.getSourcePositions().getEndPosition(unit, tree);
        Check.due("11: lines of " + element, end < 0 || unit.getLineMap().getLineNumber(end) - from < 60, true);
        TypeMirror answer = element.getReturnType();
        Check.due("3: answer of " + element, answer.getKind() == TypeKind.VOID || isFine(answer), true);
        return super.visitMethod(tree, none);
    }

    private boolean isFine(TypeMirror type) {
        String name = type.toString();
        String part = name.replace("[]", "");
        int wide = (name.length() - part.length()) / 2;
        return NUMBERS.contains(part) && wide <= 2 || (ownClasses.contains(part) || part.equals("java.lang.String")) && wide <= 1;
    }

    // ---- calls

    @Override
    public Void visitMethodInvocation(MethodInvocationTree tree, Void none) {
        called(element(tree));
        return super.visitMethodInvocation(tree, none);
    }

    @Override
    public Void visitNewClass(NewClassTree tree, Void none) {
        Check.due("2: a class without a name", tree.getClassBody() == null, true);
        called(element(tree));
        inLoop("new " + tree.getIdentifier());
        return super.visitNewClass(tree, none);
    }

    @Override
    public Void visitNewArray(NewArrayTree tree, Void none) {
        inLoop("an array");
        return super.visitNewArray(tree, none);
    }

    private void called(Element called) {
        String owner = called.getEnclosingElement().asType().toString();
        if (!ownClasses.contains(owner)) {
            Check.due("4: " + owner + "." + called.getSimpleName(), LIBRARY.contains(owner + "." + called.getSimpleName()), true);
            return;
        }
        for (Element caller : callers()) {
            calls.computeIfAbsent(caller, e -> new LinkedHashSet<>()).add(called);
        }
    }

    /** The method that is read; of a field's initialiser the constructors of its class. */
    private List<Element> callers() {
        List<Element> found = new ArrayList<>();
        TreePath path = getCurrentPath();
        while (path.getLeaf().getKind() != Tree.Kind.METHOD && path.getLeaf().getKind() != Tree.Kind.CLASS) {
            path = path.getParentPath();
        }
        Element element = trees.getElement(path);
        if (element.getKind() == ElementKind.CLASS) {
            element.getEnclosedElements().stream().filter(e -> e.getKind() == ElementKind.CONSTRUCTOR).forEach(found::add);
        } else {
            found.add(element);
        }
        return found;
    }

    /** Counts a method and the deepest of those that it calls; 99 for one that comes to call itself. */
    private int deepFrom(Element method, Set<Element> open) {
        if (!open.add(method)) {
            return 99;
        }
        int deepest = 0;
        for (Element called : calls.getOrDefault(method, Set.of())) {
            deepest = Math.max(deepest, deepFrom(called, open));
        }
        open.remove(method);
        return deepest + 1;
    }

    /** Objects are made in loops of constructors alone, by counters against constants. */
    private void inLoop(String what) {
        boolean loop = false;
        boolean constructor = false;
        for (Tree tree : getCurrentPath()) {
            loop |= tree instanceof ForLoopTree || tree instanceof WhileLoopTree || tree instanceof DoWhileLoopTree;
            constructor |= tree instanceof MethodTree method && method.getName().contentEquals("<init>");
        }
        Check.due("12: " + what + " in a loop", loop && !constructor, false);
    }

    // ---- statements and expressions

    @Override
    public Void visitForLoop(ForLoopTree tree, Void none) {
        Check.due("9: a counter and its bound", tree.getCondition() != null && tree.getInitializer().size() == 1 && tree.getUpdate().size() == 1, true);
        return super.visitForLoop(tree, none);
    }

    @Override
    public Void visitWhileLoop(WhileLoopTree tree, Void none) {
        bounded(tree.getCondition().toString());
        return super.visitWhileLoop(tree, none);
    }

    @Override
    public Void visitDoWhileLoop(DoWhileLoopTree tree, Void none) {
        bounded(tree.getCondition().toString());
        return super.visitDoWhileLoop(tree, none);
    }

    private static void bounded(String condition) {
        Check.due("9: a bound in while " + condition, condition.matches("\\(\\w+ < [\\w. -]+ && .*\\)"), true);
    }

    @Override
    public Void visitBinary(BinaryTree tree, Void none) {
        boolean text = isText(tree.getLeftOperand()) || isText(tree.getRightOperand());
        Check.due("6, 10: texts in " + tree, text, false);
        if (tree.getKind() == Tree.Kind.DIVIDE || tree.getKind() == Tree.Kind.REMAINDER) {
            Check.due("7: the divisor of " + tree, isSafeDivisor(tree.getRightOperand()), true);
        }
        return super.visitBinary(tree, none);
    }

    @Override
    public Void visitCompoundAssignment(CompoundAssignmentTree tree, Void none) {
        boolean divides = tree.getKind() == Tree.Kind.DIVIDE_ASSIGNMENT || tree.getKind() == Tree.Kind.REMAINDER_ASSIGNMENT;
        Check.due("7, 10: " + tree, divides || isText(tree.getVariable()), false);
        return super.visitCompoundAssignment(tree, none);
    }

    private boolean isText(ExpressionTree tree) {
        TypeMirror type = trees.getTypeMirror(new TreePath(getCurrentPath(), tree));
        return type != null && type.toString().equals("java.lang.String");
    }

    /** A constant, the greater of 1 and something, or a name that was asked in front of it. */
    private boolean isSafeDivisor(ExpressionTree divisor) {
        String text = divisor.toString();
        if (divisor.getKind() == Tree.Kind.INT_LITERAL) {
            return !text.equals("0");
        }
        return text.startsWith("Math.max(1, ") || isSetToOneAtLeast(text) || isAskedInLoop(text);
    }

    private boolean isSetToOneAtLeast(String name) {
        for (Tree tree : getCurrentPath()) {
            if (tree instanceof MethodTree method && method.toString().contains(" " + name + " = Math.max(1, ")) {
                return true;
            }
        }
        return false;
    }

    private boolean isAskedInLoop(String name) {
        for (Tree tree : getCurrentPath()) {
            if (tree instanceof ForLoopTree loop && loop.getCondition().toString().contains(" " + name + " > 0")) {
                return true;
            }
        }
        return false;
    }

    @Override
    public Void visitTypeCast(TypeCastTree tree, Void none) {
        Check.due("6: a cast to a number", NUMBERS.contains(tree.getType().toString()), true);
        return super.visitTypeCast(tree, none);
    }

    @Override
    public Void visitLambdaExpression(LambdaExpressionTree tree, Void none) {
        return forbidden("2: a lambda", tree);
    }

    @Override
    public Void visitMemberReference(MemberReferenceTree tree, Void none) {
        return forbidden("2: a method reference", tree);
    }

    @Override
    public Void visitThrow(ThrowTree tree, Void none) {
        return forbidden("6: throw", tree);
    }

    @Override
    public Void visitTry(TryTree tree, Void none) {
        return forbidden("6: try", tree);
    }

    @Override
    public Void visitCatch(CatchTree tree, Void none) {
        return forbidden("6: catch", tree);
    }

    @Override
    public Void visitSynchronized(SynchronizedTree tree, Void none) {
        return forbidden("6: synchronized", tree);
    }

    @Override
    public Void visitAssert(AssertTree tree, Void none) {
        return forbidden("6: assert", tree);
    }

    private Void forbidden(String what, Tree tree) {
        Check.due(what + ": " + tree, true, false);
        return null;
    }

    private Element element(Tree tree) {
        return trees.getElement(getCurrentPath().getLeaf() == tree ? getCurrentPath() : new TreePath(getCurrentPath(), tree));
    }
}
