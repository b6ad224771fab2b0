import com.sun.source.tree.AssertTree;
import com.sun.source.tree.BinaryTree;
import com.sun.source.tree.ClassTree;
import com.sun.source.tree.CompilationUnitTree;
import com.sun.source.tree.ImportTree;
import com.sun.source.tree.LambdaExpressionTree;
import com.sun.source.tree.MemberReferenceTree;
import com.sun.source.tree.MethodInvocationTree;
import com.sun.source.tree.MethodTree;
import com.sun.source.tree.NewClassTree;
import com.sun.source.tree.SynchronizedTree;
import com.sun.source.tree.ThrowTree;
import com.sun.source.tree.Tree;
import com.sun.source.tree.TryTree;
import com.sun.source.tree.VariableTree;
import com.sun.source.tree.WhileLoopTree;
import com.sun.source.util.JavacTask;
import com.sun.source.util.TreePath;
import com.sun.source.util.TreePathScanner;
import com.sun.source.util.Trees;
import java.io.IOException;
import java.nio.file.Path;
import java.util.ArrayList;
import java.util.HashMap;
import java.util.HashSet;
import java.util.LinkedHashSet;
import java.util.List;
import java.util.Map;
import java.util.Set;
import javax.lang.model.element.Element;
import javax.lang.model.element.Modifier;
import javax.lang.model.type.ArrayType;
import javax.lang.model.type.TypeMirror;
import javax.tools.JavaCompiler;
import javax.tools.StandardJavaFileManager;
import javax.tools.ToolProvider;

/** What can be told by machine of the rules in LANGUAGE.md. */
public final class SourceTest extends TreePathScanner<Void, Element> {
    private static final Set<String> FACE = Set.of("feed", "end", "realm", "rule", "force", "question", "day", "use",
            "egg", "tie", "grow", "undo", "ahead", "fate", "row", "bind", "rescue", "cover", "today", "waste", "blame",
            "woke", "note", "ruled", "look", "seed", "reigns", "count", "image", "back");
    private static final Set<String> LIBRARY = Set.of("java.lang.String.length", "java.lang.String.charAt",
            "java.lang.String.indexOf", "java.lang.Integer.bitCount", "java.lang.Math.min", "java.lang.Math.max",
            "java.lang.System.arraycopy", "java.util.Arrays.copyOf");
    private static final int MOST_LINES = 60;
    private static final int MOST_PARAMETERS = 7;
    private static final int MOST_DEEP = 8;
    private static final int MOST_CLASSES = 12;
    private static final int MOST_FIELDS = 20;

    private final Trees trees;
    private final CompilationUnitTree unit;
    private final Map<Element, Set<Element>> calls = new HashMap<>();
    private final List<String> wrong = new ArrayList<>();
    private int classes;

    private SourceTest(Trees trees, CompilationUnitTree unit) {
        this.trees = trees;
        this.unit = unit;
    }

    public static void main(String[] args) throws IOException {
        Path source = Path.of(args.length > 0 ? args[0] : ".", "src/main/java/OneDecision.java");
        JavaCompiler compiler = ToolProvider.getSystemJavaCompiler();
        try (StandardJavaFileManager files = compiler.getStandardFileManager(null, null, null)) {
            JavacTask task = (JavacTask) compiler.getTask(null, files, null, null, null,
                    files.getJavaFileObjects(source));
            CompilationUnitTree unit = task.parse().iterator().next();
            task.analyze();
            SourceTest test = new SourceTest(Trees.instance(task), unit);
            test.scan(unit, null);
            test.checkWhole();
            test.wrong.forEach(System.out::println);
            System.exit(test.wrong.isEmpty() ? 0 : 1);
        }
    }

    private void checkWhole() {
        if (classes > MOST_CLASSES) {
            wrong.add(classes + " classes");
        }
        for (Element from : calls.keySet()) {
            int deep = depth(from, new LinkedHashSet<>());
            if (deep > MOST_DEEP) {
                wrong.add("calls go " + deep + " deep from " + from);
            }
        }
    }

    /** Each method counts once on a way, so recursion counts as its members. */
    private int depth(Element from, Set<Element> way) {
        if (!way.add(from)) {
            return 0;
        }
        int most = 0;
        for (Element to : calls.getOrDefault(from, Set.of())) {
            most = Math.max(most, depth(to, way));
        }
        way.remove(from);
        return most + 1;
    }

    private void fault(String what, Tree where) {
        long at = trees.getSourcePositions().getStartPosition(unit, where);
        wrong.add("line " + unit.getLineMap().getLineNumber(at) + ": " + what);
    }

    @Override
    public Void visitClass(ClassTree tree, Element in) {
        classes++;
        Set<Modifier> flags = tree.getModifiers().getFlags();
        boolean outer = tree.getSimpleName().contentEquals("OneDecision");
        if (outer ? !flags.containsAll(Set.of(Modifier.PUBLIC, Modifier.FINAL)) : !flags.contains(Modifier.STATIC)) {
            fault("a class that is not as told", tree);
        }
        int fields = 0;
        Set<String> seen = new HashSet<>();
        for (Tree member : tree.getMembers()) {
            Set<Modifier> of = Set.of();
            if (member instanceof VariableTree variable) {
                of = variable.getModifiers().getFlags();
                fields += of.contains(Modifier.STATIC) ? 0 : 1;
                if (of.contains(Modifier.STATIC) && !of.contains(Modifier.FINAL)) {
                    fault("a static field that is not final", member);
                }
                if (outer && of.contains(Modifier.PUBLIC) && !variable.getName().contentEquals("NONE")) {
                    fault("a public field", member);
                }
            } else if (member instanceof MethodTree method) {
                of = method.getModifiers().getFlags();
                String name = method.getName().toString();
                boolean open = of.contains(Modifier.PUBLIC);
                if (outer && open && !name.equals("<init>")) {
                    seen.add(name);
                }
                if (FACE.contains(name) && !(outer && open)) {
                    fault("a method that bears a public one's name", member);
                }
            }
            boolean hidden = of.contains(Modifier.PRIVATE) || of.contains(Modifier.PUBLIC);
            if (outer && !(member instanceof ClassTree) && !hidden) {
                fault("a member that is package-visible", member);
            }
        }
        if (outer && !seen.equals(FACE)) {
            fault("a face that is not the document's", tree);
        }
        if (fields > MOST_FIELDS) {
            fault(fields + " fields", tree);
        }
        return super.visitClass(tree, in);
    }

    @Override
    public Void visitMethod(MethodTree tree, Element in) {
        long from = unit.getLineMap().getLineNumber(trees.getSourcePositions().getStartPosition(unit, tree));
        long to = from;
        if (trees.getSourcePositions().getEndPosition(unit, tree) >= 0) {
            to = unit.getLineMap().getLineNumber(trees.getSourcePositions().getEndPosition(unit, tree));
        }
        if (to - from + 1 > MOST_LINES) {
            fault("a method of " + (to - from + 1) + " lines", tree);
        }
        if (tree.getParameters().size() > MOST_PARAMETERS) {
            fault("a method of " + tree.getParameters().size() + " parameters", tree);
        }
        return super.visitMethod(tree, trees.getElement(getCurrentPath()));
    }

    private void call(Element in, Element to, Tree where) {
        if (in == null || to == null) {
            return;
        }
        String owner = to.getEnclosingElement().toString();
        if (owner.startsWith("OneDecision")) {
            calls.computeIfAbsent(in, e -> new LinkedHashSet<>()).add(to);
        } else if (!owner.equals("java.lang.Object") && !LIBRARY.contains(owner + "." + to.getSimpleName())) {
            fault("a call of " + owner + "." + to, where);
        }
    }

    @Override
    public Void visitMethodInvocation(MethodInvocationTree tree, Element in) {
        Element to = trees.getElement(getCurrentPath());
        call(in, to, tree);
        if (to != null && to.getSimpleName().contentEquals("arraycopy") && !isOfNumbers(tree.getArguments().get(0))) {
            fault("arraycopy of what are no numbers", tree);
        }
        return super.visitMethodInvocation(tree, in);
    }

    private boolean isOfNumbers(Tree row) {
        TypeMirror type = trees.getTypeMirror(new TreePath(getCurrentPath(), row));
        return type instanceof ArrayType array && array.getComponentType().getKind().isPrimitive();
    }

    @Override
    public Void visitNewClass(NewClassTree tree, Element in) {
        call(in, trees.getElement(getCurrentPath()), tree);
        if (tree.getClassBody() != null) {
            fault("an anonymous class", tree);
        }
        return super.visitNewClass(tree, in);
    }

    @Override
    public Void visitBinary(BinaryTree tree, Element in) {
        boolean text = "java.lang.String".equals(String.valueOf(trees.getTypeMirror(getCurrentPath())));
        if (tree.getKind() == Tree.Kind.PLUS && text) {
            fault("texts joined by +", tree);
        }
        return super.visitBinary(tree, in);
    }

    @Override
    public Void visitImport(ImportTree tree, Element in) {
        String name = tree.getQualifiedIdentifier().toString();
        if (!Set.of("java.util.Arrays", "java.util.ArrayList", "java.util.List").contains(name)) {
            fault("an import of " + name, tree);
        }
        return super.visitImport(tree, in);
    }

    @Override
    public Void visitThrow(ThrowTree tree, Element in) {
        fault("throw", tree);
        return super.visitThrow(tree, in);
    }

    @Override
    public Void visitTry(TryTree tree, Element in) {
        fault("try", tree);
        return super.visitTry(tree, in);
    }

    @Override
    public Void visitAssert(AssertTree tree, Element in) {
        fault("assert", tree);
        return super.visitAssert(tree, in);
    }

    @Override
    public Void visitSynchronized(SynchronizedTree tree, Element in) {
        fault("synchronized", tree);
        return super.visitSynchronized(tree, in);
    }

    @Override
    public Void visitLambdaExpression(LambdaExpressionTree tree, Element in) {
        fault("a lambda", tree);
        return super.visitLambdaExpression(tree, in);
    }

    @Override
    public Void visitMemberReference(MemberReferenceTree tree, Element in) {
        fault("a method reference", tree);
        return super.visitMemberReference(tree, in);
    }

    @Override
    public Void visitWhileLoop(WhileLoopTree tree, Element in) {
        fault("while: its end is to be seen, so count", tree);
        return super.visitWhileLoop(tree, in);
    }
}
