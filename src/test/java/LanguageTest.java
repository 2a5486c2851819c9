import com.sun.source.tree.BinaryTree;
import com.sun.source.tree.ClassTree;
import com.sun.source.tree.CompilationUnitTree;
import com.sun.source.tree.CompoundAssignmentTree;
import com.sun.source.tree.ForLoopTree;
import com.sun.source.tree.ImportTree;
import com.sun.source.tree.LambdaExpressionTree;
import com.sun.source.tree.MemberReferenceTree;
import com.sun.source.tree.MethodInvocationTree;
import com.sun.source.tree.MethodTree;
import com.sun.source.tree.NewArrayTree;
import com.sun.source.tree.NewClassTree;
import com.sun.source.tree.SynchronizedTree;
import com.sun.source.tree.Tree;
import com.sun.source.tree.TryTree;
import com.sun.source.tree.VariableTree;
import com.sun.source.util.JavacTask;
import com.sun.source.util.TreePath;
import com.sun.source.util.TreePathScanner;
import com.sun.source.util.Trees;
import java.io.File;
import java.io.IOException;
import java.util.HashMap;
import java.util.HashSet;
import java.util.List;
import java.util.Map;
import java.util.Set;
import java.util.TreeMap;
import java.util.TreeSet;
import javax.lang.model.element.Element;
import javax.lang.model.element.ExecutableElement;
import javax.lang.model.element.Modifier;
import javax.lang.model.element.TypeElement;
import javax.tools.JavaCompiler;
import javax.tools.StandardJavaFileManager;
import javax.tools.ToolProvider;

/** Those rules of LANGUAGE.md that can be seen from the source, as the compiler reads it; FaceTest has rule 1. */
public final class LanguageTest extends TreePathScanner<Void, Void> {
    private static final String SOURCE = "src/main/java/PeriodTables.java";
    /** Of what rule 4 lists: what the class uses. */
    private static final Set<String> LIBRARY = Set.of("String.length", "String.charAt", "String.isEmpty",
            "String.indexOf", "Integer.bitCount", "Math.max", "Math.min", "Math.floorMod", "System.arraycopy");
    private static final Set<String> CONSTANTS = Set.of("int", "long", "boolean", "char", "java.lang.String");
    private static final int PARAMETERS_MOST = 7;
    private static final int LINES_MOST = 60;
    private static final int DEPTH_MOST = 8;
    private static final int CLASSES_MOST = 12;
    private static final int FIELDS_MOST = 20;

    private final CompilationUnitTree unit;
    private final Trees trees;
    private final Map<Element, Set<Element>> calls = new HashMap<>();
    private final Map<String, Integer> fields = new TreeMap<>();

    private LanguageTest(CompilationUnitTree unit, Trees trees) {
        this.unit = unit;
        this.trees = trees;
    }

    public static void main(String[] args) throws IOException {
        JavaCompiler compiler = ToolProvider.getSystemJavaCompiler();
        try (StandardJavaFileManager files = compiler.getStandardFileManager(null, null, null)) {
            JavacTask task = (JavacTask) compiler.getTask(null, files, null, List.of("-proc:none"), null,
                    files.getJavaFileObjects(new File(SOURCE)));
            CompilationUnitTree unit = task.parse().iterator().next();
            task.analyze();
            LanguageTest test = new LanguageTest(unit, Trees.instance(task));
            test.scan(unit, null);
            test.classesAndFields();
            test.depths();
        }
        Due.finish("LanguageTest");
    }

    private void not(Tree tree, String what) {
        long line = unit.getLineMap().getLineNumber(trees.getSourcePositions().getStartPosition(unit, tree));
        Due.is(SOURCE + ":" + line + ": " + what, false, true);
    }

    private Element element() {
        return trees.getElement(getCurrentPath());
    }

    private boolean isText(Tree tree) {
        return trees.getTypeMirror(new TreePath(getCurrentPath(), tree)).toString().equals("java.lang.String");
    }

    /** The method that a place lies in; null: an initialiser. */
    private ExecutableElement method() {
        for (TreePath path = getCurrentPath(); path != null; path = path.getParentPath()) {
            if (path.getLeaf() instanceof MethodTree) {
                return (ExecutableElement) trees.getElement(path);
            }
        }
        return null;
    }

    // Rules 2 and 6: what must not be there at all.

    @Override
    public Void visitImport(ImportTree tree, Void none) {
        if (!tree.getQualifiedIdentifier().toString().equals("java.util.NoSuchElementException")) {
            not(tree, "an import");
        }
        return super.visitImport(tree, none);
    }

    @Override
    public Void visitLambdaExpression(LambdaExpressionTree tree, Void none) {
        not(tree, "a lambda");
        return super.visitLambdaExpression(tree, none);
    }

    @Override
    public Void visitMemberReference(MemberReferenceTree tree, Void none) {
        not(tree, "a method reference");
        return super.visitMemberReference(tree, none);
    }

    @Override
    public Void visitTry(TryTree tree, Void none) {
        not(tree, "a try: nothing in the class throws what could be caught");
        return super.visitTry(tree, none);
    }

    @Override
    public Void visitSynchronized(SynchronizedTree tree, Void none) {
        not(tree, "synchronized");
        return super.visitSynchronized(tree, none);
    }

    // Rule 10: texts are not joined by +.

    @Override
    public Void visitBinary(BinaryTree tree, Void none) {
        boolean text = isText(tree.getLeftOperand()) || isText(tree.getRightOperand());
        if (text) {
            not(tree, "an operator between texts");
        }
        return super.visitBinary(tree, none);
    }

    @Override
    public Void visitCompoundAssignment(CompoundAssignmentTree tree, Void none) {
        if (isText(tree.getVariable())) {
            not(tree, "a text that is joined");
        }
        return super.visitCompoundAssignment(tree, none);
    }

    // Rule 9: a loop tells its end.

    @Override
    public Void visitForLoop(ForLoopTree tree, Void none) {
        if (tree.getCondition() == null || tree.getUpdate().isEmpty()) {
            not(tree, "a loop without a bound or a counter");
        }
        return super.visitForLoop(tree, none);
    }

    // Rule 12: what is made is made with the object; a thrown exception aside.

    @Override
    public Void visitNewClass(NewClassTree tree, Void none) {
        boolean thrown = tree.getIdentifier().toString().equals("NoSuchElementException");
        if (!thrown && method() != null && !method().getSimpleName().contentEquals("<init>")) {
            not(tree, "an object made by a method");
        }
        return super.visitNewClass(tree, none);
    }

    @Override
    public Void visitNewArray(NewArrayTree tree, Void none) {
        if (method() != null) {
            not(tree, "an array made by a method");
        }
        return super.visitNewArray(tree, none);
    }

    // Rules 3 and 5: fields.

    @Override
    public Void visitVariable(VariableTree tree, Void none) {
        Element owner = element().getEnclosingElement();
        if (owner instanceof TypeElement) {
            Set<Modifier> modifiers = element().getModifiers();
            boolean constant = modifiers.contains(Modifier.STATIC);
            if (constant && (!modifiers.contains(Modifier.FINAL) || !CONSTANTS.contains(element().asType().toString()))) {
                not(tree, "static, and not a constant");
            }
            fields.merge(owner.toString(), constant ? 0 : 1, Integer::sum);
        }
        return super.visitVariable(tree, none);
    }

    // Rule 11: methods.

    @Override
    public Void visitMethod(MethodTree tree, Void none) {
        if (tree.getParameters().size() > PARAMETERS_MOST) {
            not(tree, "too many parameters");
        }
        long first = unit.getLineMap().getLineNumber(trees.getSourcePositions().getStartPosition(unit, tree));
        long last = unit.getLineMap().getLineNumber(trees.getSourcePositions().getEndPosition(unit, tree));
        Due.is(tree.getName() + " is short", true, last - first < LINES_MOST);
        calls.putIfAbsent(element(), new HashSet<>());
        return super.visitMethod(tree, none);
    }

    @Override
    public Void visitClass(ClassTree tree, Void none) {
        if (method() != null) {
            not(tree, "a local class");
        }
        fields.putIfAbsent(element().toString(), 0);
        return super.visitClass(tree, none);
    }

    // Rule 4: calls of the library.

    @Override
    public Void visitMethodInvocation(MethodInvocationTree tree, Void none) {
        Element called = element();
        String owner = called.getEnclosingElement().toString();
        if (owner.startsWith("PeriodTables")) {
            calls.computeIfAbsent(method(), m -> new HashSet<>()).add(called);
        } else if (!called.getSimpleName().contentEquals("<init>")) {
            String name = owner.substring(owner.lastIndexOf('.') + 1) + "." + called.getSimpleName();
            Due.is(name + " is in the library that may be used", true, LIBRARY.contains(name));
        }
        return super.visitMethodInvocation(tree, none);
    }

    private void classesAndFields() {
        Due.is("classes: " + fields.keySet(), true, fields.size() <= CLASSES_MOST);
        fields.forEach((name, many) -> Due.is("fields of " + name + ": " + many, true, many <= FIELDS_MOST));
    }

    // Rules 8 and 11: how deep calls go; those that come back to themselves are the formula's alone.

    private void depths() {
        Set<String> recursive = new TreeSet<>();
        for (Element method : calls.keySet()) {
            if (reaches(method, method, new HashSet<>())) {
                recursive.add(method.getSimpleName().toString());
            }
        }
        Due.is("methods that come back to themselves: " + recursive, true,
                recursive.equals(Set.of("comparison", "sum", "product", "thing")));
        for (Element method : calls.keySet()) {
            if (method.getModifiers().contains(Modifier.PUBLIC)) {
                int depth = depth(method, new HashSet<>());
                Due.is(method + " goes " + depth + " deep", true, depth <= DEPTH_MOST);
            }
        }
    }

    private boolean reaches(Element from, Element wanted, Set<Element> seen) {
        for (Element next : calls.getOrDefault(from, Set.of())) {
            if (next.equals(wanted) || seen.add(next) && reaches(next, wanted, seen)) {
                return true;
            }
        }
        return false;
    }

    private int depth(Element method, Set<Element> open) {
        int deepest = 0;
        if (open.add(method)) {
            for (Element next : calls.getOrDefault(method, Set.of())) {
                deepest = Math.max(deepest, open.contains(next) ? 0 : depth(next, open));
            }
            open.remove(method);
        }
        return deepest + 1;
    }
}
