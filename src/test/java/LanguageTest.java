import com.sun.source.tree.AssertTree;
import com.sun.source.tree.BinaryTree;
import com.sun.source.tree.ClassTree;
import com.sun.source.tree.CompilationUnitTree;
import com.sun.source.tree.ImportTree;
import com.sun.source.tree.LambdaExpressionTree;
import com.sun.source.tree.LineMap;
import com.sun.source.tree.MemberReferenceTree;
import com.sun.source.tree.MethodInvocationTree;
import com.sun.source.tree.MethodTree;
import com.sun.source.tree.NewArrayTree;
import com.sun.source.tree.NewClassTree;
import com.sun.source.tree.SynchronizedTree;
import com.sun.source.tree.ThrowTree;
import com.sun.source.tree.Tree;
import com.sun.source.tree.TryTree;
import com.sun.source.tree.VariableTree;
import com.sun.source.util.JavacTask;
import com.sun.source.util.TreePath;
import com.sun.source.util.TreePathScanner;
import com.sun.source.util.Trees;
import java.io.File;
import java.lang.reflect.Array;
import java.lang.reflect.Field;
import java.lang.reflect.Modifier;
import java.util.ArrayList;
import java.util.HashSet;
import java.util.IdentityHashMap;
import java.util.LinkedHashMap;
import java.util.LinkedHashSet;
import java.util.List;
import java.util.Map;
import java.util.Set;
import javax.lang.model.element.Element;
import javax.lang.model.element.ElementKind;
import javax.lang.model.type.TypeMirror;
import javax.tools.JavaCompiler;
import javax.tools.StandardJavaFileManager;
import javax.tools.ToolProvider;

/** Holds the source of the class against what of LANGUAGE.md a program can see: rules 2, 4, 5, 6, 8, 10, 11 and 12. */
final class LanguageTest {
    private static final Map<String, String> LIBRARY = Map.of(
        "java.lang.String", " length charAt isEmpty equals indexOf substring toCharArray ",
        "java.lang.StringBuilder", " append charAt setCharAt setLength deleteCharAt reverse length toString ",
        "java.util.ArrayList", " add get set remove size isEmpty clear ",
        "java.util.List", " add get set remove size isEmpty clear of ",
        "java.lang.Integer", " compare max min bitCount ",
        "java.lang.Math", " max min abs floorDiv floorMod ",
        "java.lang.System", " arraycopy ",
        "java.util.Arrays", " copyOf copyOfRange fill ");
    private static final Set<String> CONSTANTS = Set.of("int", "long", "boolean", "char", "java.lang.String");
    private static final Set<String> RECURSIVE = Set.of("Reader.condition", "Reader.single");

    private final Due t = new Due();
    private final Map<String, Set<String>> calls = new LinkedHashMap<>();
    private int asked;

    public static void main(String[] args) throws Exception {
        LanguageTest test = new LanguageTest();
        test.readSource(new File(System.getProperty("source", "src/main/java/OldestDown.java")));
        test.askForRecursion();
        test.askForDepth();
        test.askForRoom();
        System.out.println(test.asked - test.t.wrong() + " passed, " + test.t.wrong() + " failed");
        if (test.t.wrong() != 0) System.exit(1);
    }

    private void holds(String what, boolean holds) {
        asked++;
        t.due(what, holds, true);
    }

    private void readSource(File source) throws Exception {
        JavaCompiler compiler = ToolProvider.getSystemJavaCompiler();
        try (StandardJavaFileManager files = compiler.getStandardFileManager(null, null, null)) {
            JavacTask task = (JavacTask) compiler.getTask(null, files, null, List.of("--release", "17"), null,
                files.getJavaFileObjects(source));
            CompilationUnitTree unit = task.parse().iterator().next();
            task.analyze();
            holds("no package line", unit.getPackageName() == null);
            holds("one class in the file", unit.getTypeDecls().size() == 1);
            new Scanner(Trees.instance(task), unit).scan(unit, null);
        }
    }

    /** Looks at each part of the source, and writes down who calls whom. */
    private final class Scanner extends TreePathScanner<Void, Void> {
        private final Trees trees;
        private final CompilationUnitTree unit;
        private int classes;

        Scanner(Trees trees, CompilationUnitTree unit) {
            this.trees = trees;
            this.unit = unit;
        }

        private String at(Tree tree) {
            LineMap lines = unit.getLineMap();
            return "line " + lines.getLineNumber(trees.getSourcePositions().getStartPosition(unit, tree));
        }

        private Void none(Tree tree, String rule) {
            holds(rule + ": none at " + at(tree), false);
            return null;
        }

        private String name(Element method) {
            return method.getEnclosingElement().getSimpleName() + "." + method.getSimpleName();
        }

        /** The method or class in which the part that is looked at stands. */
        private Element within() {
            for (TreePath p = getCurrentPath().getParentPath(); p != null; p = p.getParentPath()) {
                if (p.getLeaf() instanceof MethodTree || p.getLeaf() instanceof ClassTree) return trees.getElement(p);
            }
            return null;
        }

        @Override
        public Void visitImport(ImportTree tree, Void v) {
            String name = tree.getQualifiedIdentifier().toString();
            holds("rule 4: import " + name, Set.of("java.util.Arrays", "java.util.ArrayList", "java.util.List").contains(name));
            return super.visitImport(tree, v);
        }

        @Override
        public Void visitClass(ClassTree tree, Void v) {
            Element c = trees.getElement(getCurrentPath());
            long fields = c.getEnclosedElements().stream().filter(e -> e.getKind() == ElementKind.FIELD
                && !e.getModifiers().contains(javax.lang.model.element.Modifier.STATIC)).count();
            holds("rule 11: some twelve classes", ++classes <= 12);
            holds("rule 11: some twenty fields of " + c, fields <= 20);
            holds("rule 2: no class within a method: " + c, getCurrentPath().getParentPath().getLeaf() instanceof ClassTree || classes == 1);
            return super.visitClass(tree, v);
        }

        @Override
        public Void visitVariable(VariableTree tree, Void v) {
            Element e = trees.getElement(getCurrentPath());
            if (e.getKind() == ElementKind.FIELD && e.getModifiers().contains(javax.lang.model.element.Modifier.STATIC)) {
                boolean constant = e.getModifiers().contains(javax.lang.model.element.Modifier.FINAL)
                    && CONSTANTS.contains(e.asType().toString());
                holds("rule 5: constant " + e, constant);
            }
            return super.visitVariable(tree, v);
        }

        @Override
        public Void visitMethod(MethodTree tree, Void v) {
            Element m = trees.getElement(getCurrentPath());
            LineMap lines = unit.getLineMap();
            long first = lines.getLineNumber(trees.getSourcePositions().getStartPosition(unit, tree));
            long end = lines.getLineNumber(Math.max(0, trees.getSourcePositions().getEndPosition(unit, tree) - 1));
            holds("rule 11: seven parameters at most: " + m, tree.getParameters().size() <= 7);
            holds("rule 11: some sixty lines: " + m, end - first < 60);
            calls.computeIfAbsent(name(m), k -> new LinkedHashSet<>());
            return super.visitMethod(tree, v);
        }

        @Override
        public Void visitMethodInvocation(MethodInvocationTree tree, Void v) {
            Element called = trees.getElement(new TreePath(getCurrentPath(), tree.getMethodSelect()));
            String owner = called.getEnclosingElement().toString();
            if (owner.equals("OldestDown") || owner.startsWith("OldestDown.")) {
                calls.computeIfAbsent(name(within()), k -> new LinkedHashSet<>()).add(name(called));
            } else if (called.getKind() != ElementKind.CONSTRUCTOR) {
                String names = LIBRARY.getOrDefault(owner.replaceAll("<.*", ""), "");
                holds("rule 4: " + owner + "." + called.getSimpleName(), names.contains(" " + called.getSimpleName() + " "));
            }
            return super.visitMethodInvocation(tree, v);
        }

        private void holdsMaking(Tree tree) {
            ElementKind where = within().getKind();
            holds("rows are made in constructors: " + at(tree), where == ElementKind.CONSTRUCTOR || where == ElementKind.CLASS);
        }

        @Override
        public Void visitNewClass(NewClassTree tree, Void v) {
            holds("rule 2: no anonymous class at " + at(tree), tree.getClassBody() == null);
            holdsMaking(tree);
            return super.visitNewClass(tree, v);
        }

        @Override
        public Void visitNewArray(NewArrayTree tree, Void v) {
            holdsMaking(tree);
            return super.visitNewArray(tree, v);
        }

        @Override
        public Void visitBinary(BinaryTree tree, Void v) {
            TypeMirror type = trees.getTypeMirror(getCurrentPath());
            boolean joined = tree.getKind() == Tree.Kind.PLUS && type != null && type.toString().equals("java.lang.String");
            holds("rule 10: texts are not joined by + at " + at(tree), !joined);
            return super.visitBinary(tree, v);
        }

        @Override
        public Void visitLambdaExpression(LambdaExpressionTree tree, Void v) {
            return none(tree, "rule 2");
        }

        @Override
        public Void visitMemberReference(MemberReferenceTree tree, Void v) {
            return none(tree, "rule 2");
        }

        @Override
        public Void visitThrow(ThrowTree tree, Void v) {
            return none(tree, "rule 6");
        }

        @Override
        public Void visitTry(TryTree tree, Void v) {
            return none(tree, "rule 6");
        }

        @Override
        public Void visitSynchronized(SynchronizedTree tree, Void v) {
            return none(tree, "rule 6");
        }

        @Override
        public Void visitAssert(AssertTree tree, Void v) {
            return none(tree, "rule 6");
        }
    }

    /** Rule 8: none but C and B of the grammar, whose depth is carried as an argument, come back to themselves. */
    private void askForRecursion() {
        for (String method : calls.keySet()) {
            Set<String> reached = new HashSet<>();
            reach(method, reached);
            holds("rule 8: recursion of " + method, reached.contains(method) == RECURSIVE.contains(method));
        }
    }

    private void reach(String method, Set<String> reached) {
        for (String called : calls.getOrDefault(method, Set.of())) {
            if (reached.add(called)) reach(called, reached);
        }
    }

    /** Rule 11: "calls that are no recursion go at most eight deep". */
    private void askForDepth() {
        for (String method : calls.keySet()) {
            int deep = depth(method, new HashSet<>());
            holds("rule 11: " + method + " goes " + deep + " deep", deep <= 8);
        }
    }

    private int depth(String method, Set<String> open) {
        int most = 0;
        open.add(method);
        for (String called : calls.getOrDefault(method, Set.of())) {
            if (!open.contains(called)) most = Math.max(most, depth(called, open));
        }
        open.remove(method);
        return 1 + most;
    }

    /** Rule 12: an object takes no more than a hundredth of the room, so that a run has place for many. */
    private void askForRoom() throws IllegalAccessException {
        Map<Object, Boolean> seen = new IdentityHashMap<>();
        List<Object> open = new ArrayList<>(List.of(new OldestDown()));
        long elements = 0;
        while (!open.isEmpty()) {
            Object o = open.remove(open.size() - 1);
            if (seen.put(o, true) == null) elements += o.getClass().isArray() ? elementsOf(o, open) : fieldsOf(o, open);
        }
        holds("rule 12: " + seen.size() + " objects and arrays", seen.size() <= 6000);
        holds("rule 12: " + elements + " fields and elements", elements <= 73000);
    }

    private static int elementsOf(Object array, List<Object> open) {
        int n = Array.getLength(array);
        for (int i = 0; i < n && array instanceof Object[]; i++) open.add(Array.get(array, i));
        return n;
    }

    private static int fieldsOf(Object o, List<Object> open) throws IllegalAccessException {
        int n = 0;
        for (Field f : o.getClass().getDeclaredFields()) {
            if (Modifier.isStatic(f.getModifiers())) continue;
            n++;
            f.setAccessible(true);
            if (!f.getType().isPrimitive() && f.get(o) != null) open.add(f.get(o));
        }
        return n;
    }
}
