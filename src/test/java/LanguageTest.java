import com.sun.source.tree.AssertTree;
import com.sun.source.tree.BinaryTree;
import com.sun.source.tree.ClassTree;
import com.sun.source.tree.CompilationUnitTree;
import com.sun.source.tree.CompoundAssignmentTree;
import com.sun.source.tree.DoWhileLoopTree;
import com.sun.source.tree.ForLoopTree;
import com.sun.source.tree.ImportTree;
import com.sun.source.tree.LambdaExpressionTree;
import com.sun.source.tree.MemberReferenceTree;
import com.sun.source.tree.MethodInvocationTree;
import com.sun.source.tree.MethodTree;
import com.sun.source.tree.NewArrayTree;
import com.sun.source.tree.NewClassTree;
import com.sun.source.tree.SynchronizedTree;
import com.sun.source.tree.ThrowTree;
import com.sun.source.tree.Tree;
import com.sun.source.tree.TryTree;
import com.sun.source.tree.VariableTree;
import com.sun.source.tree.WhileLoopTree;
import com.sun.source.util.JavacTask;
import com.sun.source.util.TreePath;
import com.sun.source.util.TreePathScanner;
import com.sun.source.util.Trees;
import java.nio.file.Files;
import java.nio.file.Path;
import java.util.ArrayDeque;
import java.util.Deque;
import java.util.HashMap;
import java.util.HashSet;
import java.util.List;
import java.util.Map;
import java.util.Set;
import java.util.TreeSet;
import javax.lang.model.element.Element;
import javax.lang.model.element.ElementKind;
import javax.lang.model.element.Modifier;
import javax.lang.model.type.TypeMirror;
import javax.tools.JavaCompiler;
import javax.tools.StandardJavaFileManager;
import javax.tools.ToolProvider;

/** Those rules of LANGUAGE.md that the compiler's own tree shows; run in the project's folder. */
public final class LanguageTest extends TreePathScanner<Void, Void> {
    private static final int LONGEST_METHOD = 60;
    private static final int DEEPEST_CALLS = 8;
    private static final Set<String> LIBRARY = Set.of("java.lang.Integer.bitCount", "java.lang.Long.bitCount", "java.lang.Math.min",
            "java.lang.Math.max", "java.lang.System.arraycopy", "java.lang.String.length", "java.lang.String.charAt",
            "java.lang.Object.<init>");
    /** Rule 3, as far as the class uses it. */
    private static final String TYPES = "(int|long|byte|boolean)(\\[\\])?|java\\.lang\\.String|GainGraphs\\.\\w+(\\[\\])?";
    private static final Path SOURCE = Path.of("src", "main", "java", "GainGraphs.java");
    private static final Set<String> THROWN = Set.of("java.lang.IllegalArgumentException", "java.lang.IndexOutOfBoundsException");

    private final Check check = new Check();
    private final Trees trees;
    private final CompilationUnitTree unit;
    private final Map<Element, Set<Element>> calls = new HashMap<>();
    private final Deque<Element> methods = new ArrayDeque<>();
    private final Set<String> publicNames = new TreeSet<>();
    private final Set<String> privateNames = new TreeSet<>();
    private int classes = 0;

    private LanguageTest(Trees trees, CompilationUnitTree unit) {
        this.trees = trees;
        this.unit = unit;
    }

    public static void main(String[] args) throws Exception {
        JavaCompiler compiler = ToolProvider.getSystemJavaCompiler();
        StandardJavaFileManager files = compiler.getStandardFileManager(null, null, null);
        JavacTask task = (JavacTask) compiler.getTask(null, files, null, List.of("-proc:none"), null,
                files.getJavaFileObjects(SOURCE));
        CompilationUnitTree unit = task.parse().iterator().next();
        task.analyze();
        LanguageTest test = new LanguageTest(Trees.instance(task), unit);
        test.scan(unit, null);
        test.signs(Files.readAllBytes(SOURCE));
        test.end();
    }

    private void end() {
        no(unit.getPackageName() != null, "a package line");
        no(classes > 12, "rule 11: " + classes + " classes");
        for (String name : privateNames) {
            no(publicNames.contains(name), "rule 1: a private method with the public name " + name);
        }
        for (Element method : calls.keySet()) {
            boolean isPlain = method.getModifiers().containsAll(Set.of(Modifier.PRIVATE, Modifier.STATIC));
            no(!isPlain && comesBack(method, method, new HashSet<>()), "rule 8: recursion of " + method);
            int depth = depth(method, new HashSet<>());
            no(depth > DEEPEST_CALLS, "rule 11: calls " + depth + " deep from " + method);
        }
        check.finish();
    }

    /** Calls open at once from a method on, those that come back to an open method not counted. */
    private int depth(Element method, Set<Element> open) {
        if (!open.add(method)) {
            return 0;
        }
        int deepest = 0;
        for (Element called : calls.getOrDefault(method, Set.of())) {
            deepest = Math.max(deepest, depth(called, open));
        }
        open.remove(method);
        return deepest + 1;
    }

    private boolean comesBack(Element start, Element method, Set<Element> seen) {
        for (Element called : calls.getOrDefault(method, Set.of())) {
            if (called.equals(start) || seen.add(called) && comesBack(start, called, seen)) {
                return true;
            }
        }
        return false;
    }

    private void signs(byte[] text) {
        int strange = 0;
        for (byte sign : text) {
            strange += sign < ' ' && sign != '\n' ? 1 : 0;
        }
        no(strange > 0, "rule 4: " + strange + " signs that are no plain ones");
    }

    private void no(boolean isWrong, String fault) {
        check.told(fault, "false", String.valueOf(isWrong));
    }

    private String place(Tree tree) {
        return "line " + unit.getLineMap().getLineNumber(trees.getSourcePositions().getStartPosition(unit, tree));
    }

    private Element element(Tree tree) {
        return trees.getElement(new TreePath(getCurrentPath(), tree));
    }

    @Override
    public Void visitImport(ImportTree tree, Void nothing) {
        no(true, "rule 4: an import, " + place(tree));
        return super.visitImport(tree, nothing);
    }

    @Override
    public Void visitClass(ClassTree tree, Void nothing) {
        classes++;
        Set<Modifier> modifiers = tree.getModifiers().getFlags();
        boolean isOuter = tree.getSimpleName().contentEquals("GainGraphs");
        no(!isOuter && (!modifiers.contains(Modifier.STATIC) || modifiers.contains(Modifier.PUBLIC)), "rule 1: " + tree.getSimpleName());
        int fields = 0;
        for (Tree member : tree.getMembers()) {
            if (member instanceof VariableTree field) {
                boolean isStatic = field.getModifiers().getFlags().contains(Modifier.STATIC);
                no(isStatic && !field.getModifiers().getFlags().contains(Modifier.FINAL), "rule 5: " + field.getName());
                fields += isStatic ? 0 : 1;
            }
            no(member.getKind() == Tree.Kind.BLOCK, "rule 5: an initialiser block, " + place(member));
        }
        no(fields > 20, "rule 11: " + fields + " fields in " + tree.getSimpleName());
        return super.visitClass(tree, nothing);
    }

    @Override
    public Void visitMethod(MethodTree tree, Void nothing) {
        long start = unit.getLineMap().getLineNumber(trees.getSourcePositions().getStartPosition(unit, tree));
        long end = unit.getLineMap().getLineNumber(trees.getSourcePositions().getEndPosition(unit, tree));
        no(end - start + 1 > LONGEST_METHOD, "rule 11: a method of " + (end - start + 1) + " lines, " + place(tree));
        no(tree.getParameters().size() > 7, "rule 11: parameters, " + place(tree));
        Set<Modifier> modifiers = tree.getModifiers().getFlags();
        String name = tree.getName().toString();
        (modifiers.contains(Modifier.PUBLIC) ? publicNames : privateNames).add(name.equals("<init>") ? name + modifiers : name);
        methods.push(element(tree) == null ? trees.getElement(getCurrentPath()) : element(tree));
        super.visitMethod(tree, nothing);
        methods.pop();
        return null;
    }

    @Override
    public Void visitMethodInvocation(MethodInvocationTree tree, Void nothing) {
        called(tree, trees.getElement(getCurrentPath()));
        return super.visitMethodInvocation(tree, nothing);
    }

    @Override
    public Void visitNewClass(NewClassTree tree, Void nothing) {
        no(tree.getClassBody() != null, "an anonymous class, " + place(tree));
        boolean isThrown = getCurrentPath().getParentPath().getLeaf() instanceof ThrowTree;
        if (!isThrown) {
            called(tree, trees.getElement(getCurrentPath()));
            made(tree);
        }
        return super.visitNewClass(tree, nothing);
    }

    @Override
    public Void visitNewArray(NewArrayTree tree, Void nothing) {
        made(tree);
        return super.visitNewArray(tree, nothing);
    }

    /** The room of a run is kept by making objects and arrays with a new GainGraphs only, never in a call. */
    private void made(Tree tree) {
        no(!methods.isEmpty() && methods.peek().getKind() != ElementKind.CONSTRUCTOR, "rule 12: made in a call, " + place(tree));
    }

    @Override
    public Void visitVariable(VariableTree tree, Void nothing) {
        String type = trees.getTypeMirror(getCurrentPath()).toString();
        no(!type.matches(TYPES), "rule 3: " + type + ", " + place(tree));
        return super.visitVariable(tree, nothing);
    }

    @Override
    public Void visitForLoop(ForLoopTree tree, Void nothing) {
        no(tree.getCondition() == null, "rule 9: a loop without an end, " + place(tree));
        return super.visitForLoop(tree, nothing);
    }

    @Override
    public Void visitWhileLoop(WhileLoopTree tree, Void nothing) {
        no(!tree.getCondition().toString().contains("<"), "rule 9: a loop without a counter, " + place(tree));
        return super.visitWhileLoop(tree, nothing);
    }

    @Override
    public Void visitDoWhileLoop(DoWhileLoopTree tree, Void nothing) {
        no(!tree.getCondition().toString().contains("<"), "rule 9: a loop without a counter, " + place(tree));
        return super.visitDoWhileLoop(tree, nothing);
    }

    private void called(Tree tree, Element method) {
        Element owner = method.getEnclosingElement();
        boolean isOwn = owner.toString().startsWith("GainGraphs");
        String name = owner + "." + method.getSimpleName();
        no(!isOwn && !LIBRARY.contains(name), "rule 4: " + name + ", " + place(tree));
        if (isOwn && !methods.isEmpty()) {
            calls.computeIfAbsent(methods.peek(), k -> new HashSet<>()).add(method);
        }
    }

    @Override
    public Void visitThrow(ThrowTree tree, Void nothing) {
        boolean isNew = tree.getExpression() instanceof NewClassTree;
        TypeMirror type = trees.getTypeMirror(new TreePath(getCurrentPath(), tree.getExpression()));
        no(!isNew || !THROWN.contains(type.toString()), "rule 6: throw of " + type + ", " + place(tree));
        no(methods.isEmpty() || methods.peek().getKind() == ElementKind.CONSTRUCTOR, "rule 6: throw in a constructor, " + place(tree));
        return super.visitThrow(tree, nothing);
    }

    @Override
    public Void visitTry(TryTree tree, Void nothing) {
        no(true, "rule 6: nothing here has to be caught, " + place(tree));
        return super.visitTry(tree, nothing);
    }

    @Override
    public Void visitBinary(BinaryTree tree, Void nothing) {
        no(tree.getKind() == Tree.Kind.PLUS && isText(trees.getTypeMirror(getCurrentPath())), "rule 10: texts joined by +, " + place(tree));
        return super.visitBinary(tree, nothing);
    }

    @Override
    public Void visitCompoundAssignment(CompoundAssignmentTree tree, Void nothing) {
        no(isText(trees.getTypeMirror(getCurrentPath())), "rule 10: texts joined by +=, " + place(tree));
        return super.visitCompoundAssignment(tree, nothing);
    }

    private static boolean isText(TypeMirror type) {
        return type != null && type.toString().equals("java.lang.String");
    }

    @Override
    public Void visitLambdaExpression(LambdaExpressionTree tree, Void nothing) {
        no(true, "rule 2: a lambda, " + place(tree));
        return super.visitLambdaExpression(tree, nothing);
    }

    @Override
    public Void visitMemberReference(MemberReferenceTree tree, Void nothing) {
        no(true, "rule 2: a method reference, " + place(tree));
        return super.visitMemberReference(tree, nothing);
    }

    @Override
    public Void visitAssert(AssertTree tree, Void nothing) {
        no(true, "rule 6: assert, " + place(tree));
        return super.visitAssert(tree, nothing);
    }

    @Override
    public Void visitSynchronized(SynchronizedTree tree, Void nothing) {
        no(true, "rule 6: synchronized, " + place(tree));
        return super.visitSynchronized(tree, nothing);
    }
}
