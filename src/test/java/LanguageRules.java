import com.sun.source.tree.AssertTree;
import com.sun.source.tree.BinaryTree;
import com.sun.source.tree.ClassTree;
import com.sun.source.tree.CompilationUnitTree;
import com.sun.source.tree.CompoundAssignmentTree;
import com.sun.source.tree.DoWhileLoopTree;
import com.sun.source.tree.ExpressionTree;
import com.sun.source.tree.ForLoopTree;
import com.sun.source.tree.LambdaExpressionTree;
import com.sun.source.tree.MemberReferenceTree;
import com.sun.source.tree.MethodInvocationTree;
import com.sun.source.tree.MethodTree;
import com.sun.source.tree.NewArrayTree;
import com.sun.source.tree.NewClassTree;
import com.sun.source.tree.SynchronizedTree;
import com.sun.source.tree.ThrowTree;
import com.sun.source.tree.Tree;
import com.sun.source.tree.TryTree;
import com.sun.source.tree.VariableTree;
import com.sun.source.tree.WhileLoopTree;
import com.sun.source.util.JavacTask;
import com.sun.source.util.SourcePositions;
import com.sun.source.util.TreePath;
import com.sun.source.util.TreePathScanner;
import com.sun.source.util.Trees;
import java.io.IOException;
import java.net.URI;
import java.util.ArrayList;
import java.util.HashMap;
import java.util.LinkedHashMap;
import java.util.LinkedHashSet;
import java.util.List;
import java.util.Map;
import java.util.Set;
import javax.lang.model.element.Element;
import javax.lang.model.element.ElementKind;
import javax.lang.model.element.Modifier;
import javax.lang.model.element.TypeElement;
import javax.lang.model.type.ArrayType;
import javax.lang.model.type.TypeKind;
import javax.lang.model.type.TypeMirror;
import javax.tools.Diagnostic;
import javax.tools.DiagnosticCollector;
import javax.tools.JavaFileObject;
import javax.tools.SimpleJavaFileObject;
import javax.tools.ToolProvider;

/**
 * What of LANGUAGE.md can be told from the compiler's tree of a file: the rules' numbers that it breaks, and where.
 * It is as strict as this class needs, and in places stricter than the rules: no recursion, nothing made by methods.
 */
final class LanguageRules extends TreePathScanner<Void, Void> {
    private static final int MOST_PARAMETERS = 7, MOST_LINES = 60, MOST_DEEP = 8, MOST_CLASSES = 12, MOST_FIELDS = 20;
    private static final Set<String> LIBRARY = Set.of("Math.min", "Math.max", "Math.abs", "Math.floorDiv",
            "Math.floorMod", "Integer.bitCount", "Integer.compare", "System.arraycopy", "Arrays.fill", "Arrays.copyOf",
            "Arrays.copyOfRange");

    private final Trees trees;
    private final SourcePositions places;
    private final CompilationUnitTree unit;
    private final List<String> broken = new ArrayList<>();
    /** By method: the methods of the file that it calls, in the file's order. */
    private final Map<Element, Set<Element>> calls = new LinkedHashMap<>();
    private int classes = 0;

    private LanguageRules(JavacTask task, CompilationUnitTree unit) {
        this.trees = Trees.instance(task);
        this.places = trees.getSourcePositions();
        this.unit = unit;
    }

    /** Each as "rule N: what, line L", or that it does not compile; none if the file keeps to all that is looked at. */
    static List<String> brokenBy(String source) throws IOException {
        JavaFileObject file = new SimpleJavaFileObject(URI.create("string:///LaterJury.java"), JavaFileObject.Kind.SOURCE) {
            @Override
            public CharSequence getCharContent(boolean ignoreErrors) {
                return source;
            }
        };
        DiagnosticCollector<JavaFileObject> said = new DiagnosticCollector<>();
        JavacTask task = (JavacTask) ToolProvider.getSystemJavaCompiler()
                .getTask(null, null, said, List.of("-proc:none"), null, List.of(file));
        CompilationUnitTree unit = task.parse().iterator().next();
        task.analyze();
        for (Diagnostic<? extends JavaFileObject> one : said.getDiagnostics()) {
            if (one.getKind() == Diagnostic.Kind.ERROR) {
                // without their types the trees tell nothing
                return List.of("does not compile: " + one);
            }
        }
        LanguageRules rules = new LanguageRules(task, unit);
        rules.scan(unit, null);
        rules.wholeFile();
        return rules.broken;
    }

    private void breaks(int rule, String what, Tree where) {
        long line = unit.getLineMap().getLineNumber(places.getStartPosition(unit, where));
        broken.add("rule " + rule + ": " + what + ", line " + line);
    }

    private void wholeFile() {
        if (classes > MOST_CLASSES) {
            broken.add("rule 11: " + classes + " classes");
        }
        Map<Element, Integer> known = new HashMap<>();
        for (Element method : calls.keySet()) {
            int deep = deepest(method, new LinkedHashSet<>(), known);
            if (deep > MOST_DEEP) {
                broken.add("rule 11: " + method + " goes " + deep + " deep");
            }
        }
    }

    /** How many calls stand open at once, that of the method itself among them. */
    private int deepest(Element method, Set<Element> open, Map<Element, Integer> known) {
        if (known.containsKey(method)) {
            return known.get(method);
        }
        if (!open.add(method)) {
            broken.add("rule 8: " + method + " comes back to itself");
            return 0;
        }
        int below = 0;
        for (Element called : calls.getOrDefault(method, Set.of())) {
            below = Math.max(below, deepest(called, open, known));
        }
        open.remove(method);
        known.put(method, below + 1);
        return below + 1;
    }

    private Element elementOf(Tree tree) {
        return trees.getElement(TreePath.getPath(unit, tree));
    }

    private MethodTree methodAround() {
        for (TreePath path = getCurrentPath(); path != null; path = path.getParentPath()) {
            if (path.getLeaf() instanceof MethodTree method) {
                return method;
            }
        }
        return null;
    }

    private boolean isOfThisFile(Element element) {
        for (Element around = element; around != null; around = around.getEnclosingElement()) {
            if (around instanceof TypeElement type && type.getQualifiedName().contentEquals("LaterJury")) {
                return true;
            }
        }
        return false;
    }

    // ---- rules 1, 2, 11: classes and methods

    @Override
    public Void visitCompilationUnit(CompilationUnitTree tree, Void none) {
        if (tree.getPackage() != null || tree.getTypeDecls().size() != 1) {
            breaks(1, "a package line, or not one class alone", tree);
        }
        return super.visitCompilationUnit(tree, none);
    }

    @Override
    public Void visitClass(ClassTree tree, Void none) {
        classes++;
        Element element = elementOf(tree);
        boolean outer = getCurrentPath().getParentPath().getLeaf() instanceof CompilationUnitTree;
        if (!outer && !element.getModifiers().contains(Modifier.STATIC)) {
            breaks(2, "a class inside that is not static", tree);
        }
        int fields = 0;
        for (Tree member : tree.getMembers()) {
            if (member.getKind() == Tree.Kind.BLOCK) {
                breaks(5, "an initialiser block", member);
            }
            if (member instanceof VariableTree field && !field.getModifiers().getFlags().contains(Modifier.STATIC)) {
                fields++;
            }
        }
        if (fields > MOST_FIELDS) {
            breaks(11, fields + " fields", tree);
        }
        return super.visitClass(tree, none);
    }

    @Override
    public Void visitMethod(MethodTree tree, Void none) {
        calls.putIfAbsent(elementOf(tree), new LinkedHashSet<>());
        if (tree.getParameters().size() > MOST_PARAMETERS) {
            breaks(11, tree.getName() + " takes too many", tree);
        }
        long first = unit.getLineMap().getLineNumber(places.getStartPosition(unit, tree));
        long end = places.getEndPosition(unit, tree);
        // the compiler's own empty constructor has no end in the text
        if (end >= 0 && unit.getLineMap().getLineNumber(end) - first + 1 > MOST_LINES) {
            breaks(11, tree.getName() + " is too long", tree);
        }
        if (!tree.getThrows().isEmpty()) {
            breaks(6, "throws", tree);
        }
        return super.visitMethod(tree, none);
    }

    // ---- rules 3, 5: what things are

    @Override
    public Void visitVariable(VariableTree tree, Void none) {
        Element element = elementOf(tree);
        if (!mayBe(element.asType(), 0)) {
            breaks(3, tree.getName() + " is " + element.asType(), tree);
        }
        if (element.getKind() == ElementKind.FIELD && element.getModifiers().contains(Modifier.STATIC)) {
            boolean number = element.asType().getKind().isPrimitive() || element.asType().toString().equals("java.lang.String");
            boolean written = tree.getInitializer() instanceof NewArrayTree array && array.getDimensions().isEmpty();
            if (!element.getModifiers().contains(Modifier.FINAL) || !(number || written)) {
                breaks(5, tree.getName() + " is static state", tree);
            }
        }
        return super.visitVariable(tree, none);
    }

    private boolean mayBe(TypeMirror type, int dimensions) {
        if (type instanceof ArrayType array) {
            return mayBe(array.getComponentType(), dimensions + 1);
        }
        if (type.getKind() == TypeKind.FLOAT || type.getKind() == TypeKind.DOUBLE) {
            // allowed by the rule, but nothing of the document asks for it
            return false;
        }
        if (type.getKind().isPrimitive()) {
            return dimensions <= 2;
        }
        String name = type.toString();
        return dimensions <= 1 && (name.startsWith("LaterJury") || name.equals("java.lang.String")
                || name.equals("java.lang.StringBuilder"));
    }

    // ---- rule 4: the library; rule 12: what is made

    @Override
    public Void visitMethodInvocation(MethodInvocationTree tree, Void none) {
        Element called = elementOf(tree);
        MethodTree around = methodAround();
        if (called == null || called.getSimpleName().contentEquals("<init>")) {
            return super.visitMethodInvocation(tree, none);
        }
        if (!isOfThisFile(called)) {
            String name = called.getEnclosingElement().getSimpleName() + "." + called.getSimpleName();
            if (!LIBRARY.contains(name)) {
                breaks(4, name, tree);
            }
        } else if (around != null) {
            calls.computeIfAbsent(elementOf(around), method -> new LinkedHashSet<>()).add(called);
        }
        return super.visitMethodInvocation(tree, none);
    }

    @Override
    public Void visitNewClass(NewClassTree tree, Void none) {
        if (tree.getClassBody() != null) {
            breaks(2, "a class without a name", tree);
        }
        madeOnlyByConstructors(tree);
        return super.visitNewClass(tree, none);
    }

    @Override
    public Void visitNewArray(NewArrayTree tree, Void none) {
        madeOnlyByConstructors(tree);
        return super.visitNewArray(tree, none);
    }

    /** The room is one for all calls: what a method makes would be counted with each of them. */
    private void madeOnlyByConstructors(Tree tree) {
        MethodTree around = methodAround();
        if (around != null && around.getReturnType() != null) {
            breaks(12, around.getName() + " makes something", tree);
        }
    }

    // ---- rules 2, 6, 10: what may not stand

    @Override
    public Void visitLambdaExpression(LambdaExpressionTree tree, Void none) {
        breaks(2, "a lambda", tree);
        return super.visitLambdaExpression(tree, none);
    }

    @Override
    public Void visitMemberReference(MemberReferenceTree tree, Void none) {
        breaks(2, "a method reference", tree);
        return super.visitMemberReference(tree, none);
    }

    @Override
    public Void visitThrow(ThrowTree tree, Void none) {
        breaks(6, "throw", tree);
        return super.visitThrow(tree, none);
    }

    @Override
    public Void visitTry(TryTree tree, Void none) {
        breaks(6, "try", tree);
        return super.visitTry(tree, none);
    }

    @Override
    public Void visitSynchronized(SynchronizedTree tree, Void none) {
        breaks(6, "synchronized", tree);
        return super.visitSynchronized(tree, none);
    }

    @Override
    public Void visitAssert(AssertTree tree, Void none) {
        breaks(6, "assert", tree);
        return super.visitAssert(tree, none);
    }

    @Override
    public Void visitBinary(BinaryTree tree, Void none) {
        if (tree.getKind() == Tree.Kind.PLUS) {
            joinsNoText(tree);
        }
        return super.visitBinary(tree, none);
    }

    @Override
    public Void visitCompoundAssignment(CompoundAssignmentTree tree, Void none) {
        joinsNoText(tree);
        return super.visitCompoundAssignment(tree, none);
    }

    private void joinsNoText(Tree tree) {
        TypeMirror type = trees.getTypeMirror(getCurrentPath());
        if (type != null && type.toString().equals("java.lang.String")) {
            breaks(10, "texts joined by +", tree);
        }
    }

    // ---- rule 9: each loop's condition compares something with a bound

    @Override
    public Void visitWhileLoop(WhileLoopTree tree, Void none) {
        hasBound(tree.getCondition(), tree);
        return super.visitWhileLoop(tree, none);
    }

    @Override
    public Void visitDoWhileLoop(DoWhileLoopTree tree, Void none) {
        hasBound(tree.getCondition(), tree);
        return super.visitDoWhileLoop(tree, none);
    }

    @Override
    public Void visitForLoop(ForLoopTree tree, Void none) {
        hasBound(tree.getCondition(), tree);
        return super.visitForLoop(tree, none);
    }

    private void hasBound(ExpressionTree condition, Tree loop) {
        String text = condition == null ? "" : condition.toString();
        if (!text.contains("<") && !text.contains(">")) {
            breaks(9, "a loop without a bound", loop);
        }
    }
}
