import com.sun.source.tree.AssertTree;
import com.sun.source.tree.BinaryTree;
import com.sun.source.tree.BlockTree;
import com.sun.source.tree.ClassTree;
import com.sun.source.tree.CompilationUnitTree;
import com.sun.source.tree.LambdaExpressionTree;
import com.sun.source.tree.MemberReferenceTree;
import com.sun.source.tree.MethodInvocationTree;
import com.sun.source.tree.MethodTree;
import com.sun.source.tree.NewClassTree;
import com.sun.source.tree.SynchronizedTree;
import com.sun.source.tree.ThrowTree;
import com.sun.source.tree.Tree;
import com.sun.source.tree.TryTree;
import com.sun.source.tree.VariableTree;
import com.sun.source.util.JavacTask;
import com.sun.source.util.SourcePositions;
import com.sun.source.util.TreePath;
import com.sun.source.util.TreePathScanner;
import com.sun.source.util.Trees;
import java.io.File;
import java.io.IOException;
import java.util.HashMap;
import java.util.HashSet;
import java.util.List;
import java.util.Map;
import java.util.Set;
import java.util.TreeSet;
import javax.lang.model.element.Element;
import javax.lang.model.element.ExecutableElement;
import javax.lang.model.element.Modifier;
import javax.tools.JavaCompiler;
import javax.tools.StandardJavaFileManager;
import javax.tools.ToolProvider;

/** Rules of LANGUAGE.md that can be seen in the source, read as the compiler reads it. */
final class LanguageTest extends TreePathScanner<Void, Void> {
    private static final String SOURCE = "src/main/java/TwoKerbs.java";
    /** Narrower than rule 4: what the class has come to need. */
    private static final Set<String> LIBRARY = Set.of("Integer.bitCount", "Math.max", "Math.min");
    private static final Set<String> CONSTANTS =
            Set.of("int", "long", "boolean", "char", "java.lang.String", "int[]", "long[]", "char[]", "byte[]");
    private static final Check check = new Check();

    private final Trees trees;
    private final CompilationUnitTree unit;
    private final Map<String, Set<String>> calls = new HashMap<>();
    private final Set<String> classes = new TreeSet<>();
    private String method = "";

    private LanguageTest(Trees trees, CompilationUnitTree unit) {
        this.trees = trees;
        this.unit = unit;
    }

    public static void main(String[] args) throws IOException {
        JavaCompiler compiler = ToolProvider.getSystemJavaCompiler();
        try (StandardJavaFileManager files = compiler.getStandardFileManager(null, null, null)) {
            JavacTask task = (JavacTask) compiler.getTask(null, files, null, List.of("-proc:none"), null,
                    files.getJavaFileObjects(new File(SOURCE)));
            CompilationUnitTree unit = task.parse().iterator().next();
            task.analyze();
            LanguageTest test = new LanguageTest(Trees.instance(task), unit);
            test.scan(unit, null);
            test.asAWhole();
            check.holds("letters 1 to 127 alone", unit.getSourceFile().getCharContent(true).chars()
                    .allMatch(letter -> letter >= 1 && letter <= 127));
        }
        check.end();
    }

    private void asAWhole() {
        check.holds("no package line", unit.getPackageName() == null);
        check.holds("no imports", unit.getImports().isEmpty());
        check.holds("one class in the file", unit.getTypeDecls().size() == 1);
        check.holds("twelve classes at most: " + classes, classes.size() <= 12);
        int deepest = 0;
        for (String first : calls.keySet()) {
            deepest = Math.max(deepest, depth(first, new HashSet<>()));
        }
        check.holds("calls go eight deep at most: " + deepest, deepest >= 1 && deepest <= 8);
    }

    /** How many calls stand open at once, the first one counted; a call of itself is never shallow. */
    private int depth(String first, Set<String> open) {
        if (!open.add(first)) {
            check.holds(first + " does not come to itself again", false);
            return 1000;
        }
        int deepest = 0;
        for (String next : calls.getOrDefault(first, Set.of())) {
            deepest = Math.max(deepest, depth(next, open));
        }
        open.remove(first);
        return deepest + 1;
    }

    private void rule(Tree tree, String what, boolean so) {
        long line = unit.getLineMap().getLineNumber(trees.getSourcePositions().getStartPosition(unit, tree));
        check.holds("line " + line + ": " + what, so);
    }

    private Element element(Tree tree) {
        return trees.getElement(TreePath.getPath(unit, tree));
    }

    private static String nameOf(Element called) {
        return called.getEnclosingElement().getSimpleName() + "." + called.getSimpleName();
    }

    @Override
    public Void visitClass(ClassTree tree, Void nothing) {
        Element found = element(tree);
        classes.add(tree.getSimpleName().toString());
        rule(tree, "a class has a name and stands in the file or in the class", found.getEnclosingElement() != null
                && !found.getEnclosingElement().getKind().isField() && tree.getSimpleName().length() > 0
                && getCurrentPath().getParentPath().getLeaf().getKind() != Tree.Kind.BLOCK);
        int fields = 0;
        for (Tree member : tree.getMembers()) {
            rule(member, "no initialiser block", !(member instanceof BlockTree));
            if (member instanceof VariableTree field && !field.getModifiers().getFlags().contains(Modifier.STATIC)) {
                fields++;
            }
        }
        rule(tree, "twenty fields at most", fields <= 20);
        return super.visitClass(tree, nothing);
    }

    @Override
    public Void visitVariable(VariableTree tree, Void nothing) {
        if (tree.getModifiers().getFlags().contains(Modifier.STATIC)) {
            String type = element(tree).asType().toString();
            rule(tree, "a static field is a constant", tree.getModifiers().getFlags().contains(Modifier.FINAL)
                    && tree.getInitializer() != null && CONSTANTS.contains(type));
        }
        return super.visitVariable(tree, nothing);
    }

    @Override
    public Void visitMethod(MethodTree tree, Void nothing) {
        SourcePositions places = trees.getSourcePositions();
        long first = unit.getLineMap().getLineNumber(Math.max(places.getStartPosition(unit, tree), 0));
        long last = unit.getLineMap().getLineNumber(Math.max(places.getEndPosition(unit, tree), 1));
        rule(tree, "a method has sixty lines at most", last - first < 60);
        rule(tree, "a method has seven parameters at most", tree.getParameters().size() <= 7);
        rule(tree, "a method throws nothing", tree.getThrows().isEmpty());
        String outer = method;
        method = nameOf(element(tree));
        calls.computeIfAbsent(method, name -> new TreeSet<>());
        super.visitMethod(tree, nothing);
        method = outer;
        return null;
    }

    @Override
    public Void visitMethodInvocation(MethodInvocationTree tree, Void nothing) {
        Element called = element(tree);
        boolean isCall = called instanceof ExecutableElement;
        rule(tree, "a call is of a method", isCall);
        String name = isCall ? nameOf(called) : "";
        boolean isOwn = isCall && trees.getTree(called) != null;
        boolean isConstructor = name.endsWith(".<init>");
        rule(tree, name + " is its own or of the library that may be used",
                isOwn || isConstructor || LIBRARY.contains(name));
        if (isOwn && !isConstructor) {
            calls.computeIfAbsent(method, key -> new TreeSet<>()).add(name);
        }
        return super.visitMethodInvocation(tree, nothing);
    }

    @Override
    public Void visitNewClass(NewClassTree tree, Void nothing) {
        rule(tree, "no anonymous class", tree.getClassBody() == null);
        rule(tree, "objects of its own classes alone", classes.contains(tree.getIdentifier().toString())
                || trees.getTree(element(tree)) != null);
        return super.visitNewClass(tree, nothing);
    }

    @Override
    public Void visitBinary(BinaryTree tree, Void nothing) {
        String type = trees.getTypeMirror(getCurrentPath()).toString();
        rule(tree, "numbers and truths alone are reckoned with", Set.of("int", "long", "boolean").contains(type));
        return super.visitBinary(tree, nothing);
    }

    @Override
    public Void visitThrow(ThrowTree tree, Void nothing) {
        rule(tree, "no throw", false);
        return null;
    }

    @Override
    public Void visitTry(TryTree tree, Void nothing) {
        rule(tree, "no try", false);
        return null;
    }

    @Override
    public Void visitSynchronized(SynchronizedTree tree, Void nothing) {
        rule(tree, "no synchronized", false);
        return null;
    }

    @Override
    public Void visitAssert(AssertTree tree, Void nothing) {
        rule(tree, "no assert", false);
        return null;
    }

    @Override
    public Void visitLambdaExpression(LambdaExpressionTree tree, Void nothing) {
        rule(tree, "no lambda", false);
        return null;
    }

    @Override
    public Void visitMemberReference(MemberReferenceTree tree, Void nothing) {
        rule(tree, "no method reference", false);
        return null;
    }
}
