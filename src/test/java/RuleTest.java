import com.sun.source.tree.BinaryTree;
import com.sun.source.tree.CatchTree;
import com.sun.source.tree.ClassTree;
import com.sun.source.tree.CompilationUnitTree;
import com.sun.source.tree.DoWhileLoopTree;
import com.sun.source.tree.ExpressionTree;
import com.sun.source.tree.ForLoopTree;
import com.sun.source.tree.InstanceOfTree;
import com.sun.source.tree.LambdaExpressionTree;
import com.sun.source.tree.MemberReferenceTree;
import com.sun.source.tree.MethodInvocationTree;
import com.sun.source.tree.MethodTree;
import com.sun.source.tree.NewClassTree;
import com.sun.source.tree.ThrowTree;
import com.sun.source.tree.Tree;
import com.sun.source.tree.TryTree;
import com.sun.source.tree.TypeCastTree;
import com.sun.source.tree.VariableTree;
import com.sun.source.tree.WhileLoopTree;
import com.sun.source.util.JavacTask;
import com.sun.source.util.TreePath;
import com.sun.source.util.TreePathScanner;
import com.sun.source.util.Trees;
import java.io.File;
import java.io.IOException;
import java.util.ArrayList;
import java.util.Arrays;
import java.util.LinkedHashMap;
import java.util.LinkedHashSet;
import java.util.List;
import java.util.Map;
import java.util.Set;
import java.util.TreeSet;
import javax.lang.model.element.Element;
import javax.lang.model.element.ElementKind;
import javax.lang.model.element.Modifier;
import javax.lang.model.type.TypeMirror;
import javax.tools.JavaCompiler;
import javax.tools.StandardJavaFileManager;
import javax.tools.ToolProvider;

/** The rules of LANGUAGE.md that the compiler's own tree of OptionBench.java shows. */
public final class RuleTest extends TreePathScanner<Void, Void> {
    private static final File SOURCE = new File("src/main/java/OptionBench.java");
    private static final int MOST_DEEP = 8;
    private static final int MOST_LINES = 60;
    private static final int MOST_PARAMETERS = 7;
    private static final Set<String> LIBRARY = Set.of("java.lang.Math.max", "java.lang.Math.min", "java.lang.Math.abs",
        "java.lang.String.length", "java.lang.String.charAt", "java.lang.Object.<init>",
        "java.util.NoSuchElementException.<init>");
    private static final Set<String> TYPES = Set.of("int", "long", "byte", "char", "boolean", "java.lang.String");

    private final Trees trees;
    private final CompilationUnitTree unit;
    private final Map<Element, Set<Element>> calls = new LinkedHashMap<>();
    private Element inside;
    private int wrong = 0;

    private RuleTest(Trees trees, CompilationUnitTree unit) {
        this.trees = trees;
        this.unit = unit;
    }

    private void wrong(int rule, String what, Tree at) {
        wrong++;
        System.out.println("rule " + rule + ", line " + lineOf(trees.getSourcePositions().getStartPosition(unit, at)) + ": "
            + what);
    }

    private long lineOf(long position) {
        return unit.getLineMap().getLineNumber(position);
    }

    private TypeMirror typeOf(Tree tree) {
        return trees.getTypeMirror(new TreePath(getCurrentPath(), tree));
    }

    // ---- rules 2, 3, 5 ----

    @Override
    public Void visitClass(ClassTree tree, Void unused) {
        Element element = trees.getElement(getCurrentPath());
        boolean outer = element.getSimpleName().contentEquals("OptionBench");
        if (!outer && !element.getModifiers().contains(Modifier.STATIC)) {
            wrong(2, "a class that is not static", tree);
        }
        return super.visitClass(tree, unused);
    }

    @Override
    public Void visitVariable(VariableTree tree, Void unused) {
        String type = typeOf(tree.getType()).toString();
        String part = type.replace("[]", "");
        int dimensions = (type.length() - part.length()) / 2;
        boolean own = part.startsWith("OptionBench.");
        if (!own && !TYPES.contains(part) || dimensions > (own ? 1 : 2) || part.endsWith("String") && dimensions > 0) {
            wrong(3, "a variable of type " + type, tree);
        }
        Element element = trees.getElement(getCurrentPath());
        boolean isStatic = element.getKind() == ElementKind.FIELD && element.getModifiers().contains(Modifier.STATIC);
        if (isStatic && !element.getModifiers().contains(Modifier.FINAL)) {
            wrong(5, "static state", tree);
        }
        return super.visitVariable(tree, unused);
    }

    @Override
    public Void visitLambdaExpression(LambdaExpressionTree tree, Void unused) {
        wrong(2, "a lambda", tree);
        return super.visitLambdaExpression(tree, unused);
    }

    @Override
    public Void visitMemberReference(MemberReferenceTree tree, Void unused) {
        wrong(2, "a method reference", tree);
        return super.visitMemberReference(tree, unused);
    }

    // ---- rules 4, 8, 11 ----

    @Override
    public Void visitMethod(MethodTree tree, Void unused) {
        Element before = inside;
        inside = trees.getElement(getCurrentPath());
        calls.put(inside, new LinkedHashSet<>());
        long start = lineOf(trees.getSourcePositions().getStartPosition(unit, tree));
        long end = lineOf(trees.getSourcePositions().getEndPosition(unit, tree));
        if (end - start >= MOST_LINES) {
            wrong(11, "a method of " + (end - start + 1) + " lines", tree);
        }
        if (tree.getParameters().size() > MOST_PARAMETERS) {
            wrong(11, "more than seven parameters", tree);
        }
        super.visitMethod(tree, unused);
        inside = before;
        return null;
    }

    @Override
    public Void visitMethodInvocation(MethodInvocationTree tree, Void unused) {
        called(trees.getElement(getCurrentPath()), tree);
        return super.visitMethodInvocation(tree, unused);
    }

    @Override
    public Void visitNewClass(NewClassTree tree, Void unused) {
        if (tree.getClassBody() != null) {
            wrong(2, "an anonymous class", tree);
        }
        called(trees.getElement(getCurrentPath()), tree);
        return super.visitNewClass(tree, unused);
    }

    private void called(Element method, Tree at) {
        String name = method.getEnclosingElement() + "." + method.getSimpleName();
        if (name.startsWith("OptionBench")) {
            if (inside != null) {
                calls.get(inside).add(method);
            }
        } else if (!LIBRARY.contains(name)) {
            wrong(4, "calls " + name, at);
        }
    }

    private void depths() {
        int deepest = 0;
        for (Element method : calls.keySet()) {
            List<Element> chain = deepest(method, new ArrayList<>());
            deepest = Math.max(deepest, chain.size());
            if (chain.size() > MOST_DEEP) {
                wrong++;
                System.out.println("rule 11: calls go " + chain.size() + " deep: " + chain);
            }
        }
        System.out.println("calls go " + deepest + " deep");
    }

    /** The longest chain of calls from a method on, itself the first. */
    private List<Element> deepest(Element method, List<Element> above) {
        List<Element> best = new ArrayList<>();
        if (above.contains(method)) {
            wrong++;
            System.out.println("rule 8: " + method + " calls itself by " + above);
            return best;
        }
        above.add(method);
        for (Element next : calls.getOrDefault(method, Set.of())) {
            List<Element> chain = deepest(next, above);
            if (chain.size() > best.size()) {
                best = chain;
            }
        }
        above.remove(above.size() - 1);
        best.add(0, method);
        return best;
    }

    // ---- rule 6 ----

    @Override
    public Void visitThrow(ThrowTree tree, Void unused) {
        if (!tree.getExpression().toString().equals("new NoSuchElementException()")) {
            wrong(6, "throws " + tree.getExpression(), tree);
        }
        if (inside == null || inside.getKind() != ElementKind.METHOD) {
            wrong(6, "throws in a constructor", tree);
        }
        return super.visitThrow(tree, unused);
    }

    @Override
    public Void visitTry(TryTree tree, Void unused) {
        wrong(6, "nothing here needs a try", tree);
        return super.visitTry(tree, unused);
    }

    @Override
    public Void visitCatch(CatchTree tree, Void unused) {
        wrong(6, "nothing here needs a catch", tree);
        return super.visitCatch(tree, unused);
    }

    @Override
    public Void visitInstanceOf(InstanceOfTree tree, Void unused) {
        wrong(6, "nothing here needs instanceof", tree);
        return super.visitInstanceOf(tree, unused);
    }

    @Override
    public Void visitTypeCast(TypeCastTree tree, Void unused) {
        if (!typeOf(tree.getType()).getKind().isPrimitive()) {
            wrong(6, "a cast among objects", tree);
        }
        return super.visitTypeCast(tree, unused);
    }

    // ---- rules 7, 9, 10 ----

    @Override
    public Void visitBinary(BinaryTree tree, Void unused) {
        boolean divides = tree.getKind() == Tree.Kind.DIVIDE || tree.getKind() == Tree.Kind.REMAINDER;
        String divisor = tree.getRightOperand().toString();
        // Beside numbers written out these two alone, which are tested where they stand.
        if (divides && !divisor.matches("[1-9][0-9]*") && !Arrays.asList("divisor", "less").contains(divisor)) {
            wrong(7, "divides by " + divisor, tree);
        }
        if (typeOf(tree).toString().equals("java.lang.String")) {
            wrong(10, "joins texts by +", tree);
        }
        return super.visitBinary(tree, unused);
    }

    private void bounded(ExpressionTree condition, Tree loop) {
        if (condition == null || !condition.toString().matches(".*[<>].*")) {
            wrong(9, "no counter against a bound", loop);
        }
    }

    @Override
    public Void visitForLoop(ForLoopTree tree, Void unused) {
        bounded(tree.getCondition(), tree);
        return super.visitForLoop(tree, unused);
    }

    @Override
    public Void visitWhileLoop(WhileLoopTree tree, Void unused) {
        bounded(tree.getCondition(), tree);
        return super.visitWhileLoop(tree, unused);
    }

    @Override
    public Void visitDoWhileLoop(DoWhileLoopTree tree, Void unused) {
        bounded(tree.getCondition(), tree);
        return super.visitDoWhileLoop(tree, unused);
    }

    /** What none of the class calls is there for nothing. */
    private void unused() {
        Set<Element> used = new LinkedHashSet<>();
        calls.values().forEach(used::addAll);
        TreeSet<String> idle = new TreeSet<>();
        for (Element method : calls.keySet()) {
            if (!method.getModifiers().contains(Modifier.PUBLIC) && !used.contains(method)
                    && method.getKind() == ElementKind.METHOD) {
                idle.add(method.toString());
            }
        }
        if (!idle.isEmpty()) {
            wrong++;
            System.out.println("never called: " + idle);
        }
    }

    public static void main(String[] args) throws IOException {
        JavaCompiler compiler = ToolProvider.getSystemJavaCompiler();
        StandardJavaFileManager files = compiler.getStandardFileManager(null, null, null);
        JavacTask task = (JavacTask) compiler.getTask(null, files, null, List.of("-proc:none", "-implicit:none"), null,
            files.getJavaFileObjects(SOURCE));
        CompilationUnitTree unit = task.parse().iterator().next();
        task.analyze();
        RuleTest test = new RuleTest(Trees.instance(task), unit);
        test.scan(unit, null);
        test.depths();
        test.unused();
        System.out.println(test.wrong == 0 ? "the rules are kept" : test.wrong + " places are outside the rules");
        if (test.wrong != 0 || test.calls.isEmpty()) {
            System.exit(1);
        }
    }
}
