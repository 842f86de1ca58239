import com.sun.source.tree.BinaryTree;
import com.sun.source.tree.ClassTree;
import com.sun.source.tree.CompilationUnitTree;
import com.sun.source.tree.LambdaExpressionTree;
import com.sun.source.tree.MemberReferenceTree;
import com.sun.source.tree.MethodInvocationTree;
import com.sun.source.tree.MethodTree;
import com.sun.source.tree.NewClassTree;
import com.sun.source.tree.ThrowTree;
import com.sun.source.tree.Tree;
import com.sun.source.tree.TryTree;
import com.sun.source.tree.VariableTree;
import com.sun.source.util.JavacTask;
import com.sun.source.util.TreePath;
import com.sun.source.util.TreePathScanner;
import com.sun.source.util.Trees;
import java.io.File;
import java.util.ArrayList;
import java.util.List;
import java.util.Map;
import java.util.Set;
import java.util.TreeMap;
import java.util.TreeSet;
import javax.lang.model.element.Element;
import javax.lang.model.element.ElementKind;
import javax.lang.model.type.TypeMirror;
import javax.tools.JavaCompiler;
import javax.tools.StandardJavaFileManager;
import javax.tools.ToolProvider;

/** The rules of LANGUAGE.md for which the source must be understood as the compiler does: who calls whom, of what types. */
public final class CallsTest {
    private static final Checks C = new Checks("CallsTest");
    private static final int DEEPEST = 8;
    private static final Set<String> LIBRARY = Set.of("String.length", "String.charAt", "Integer.bitCount",
            "Integer.compare", "Math.max", "Math.min", "Math.abs", "System.arraycopy");
    private static final Set<String> PLAIN_TYPES = Set.of("int", "long", "short", "byte", "char", "boolean",
            "java.lang.String");

    private final Map<String, Set<String>> callsOf = new TreeMap<>();
    private final Map<String, MethodTree> methods = new TreeMap<>();

    public static void main(String[] args) throws Exception {
        CallsTest test = new CallsTest();
        test.read();
        test.depth();
        test.recursion();
        C.end();
    }

    private void read() throws Exception {
        JavaCompiler compiler = ToolProvider.getSystemJavaCompiler();
        StandardJavaFileManager files = compiler.getStandardFileManager(null, null, null);
        JavacTask task = (JavacTask) compiler.getTask(null, files, null, List.of("-proc:none"), null,
                files.getJavaFileObjects(new File("src/main/java/RedHands.java")));
        for (CompilationUnitTree unit : task.parse()) {
            task.analyze();
            new Reader(Trees.instance(task), unit).scan(unit, null);
        }
        files.close();
    }

    /** Goes through the source and keeps which method calls which one. */
    private final class Reader extends TreePathScanner<Void, Void> {
        private final Trees trees;
        private final CompilationUnitTree unit;
        private String type = "";
        private String method = "";

        Reader(Trees trees, CompilationUnitTree unit) {
            this.trees = trees;
            this.unit = unit;
        }

        private Element element(Tree tree) {
            return trees.getElement(new TreePath(getCurrentPath(), tree));
        }

        @Override
        public Void visitClass(ClassTree tree, Void none) {
            String outer = type;
            type = tree.getSimpleName().toString();
            super.visitClass(tree, none);
            type = outer;
            return null;
        }

        @Override
        public Void visitMethod(MethodTree tree, Void none) {
            method = type + "." + tree.getName();
            C.due(method + " bears a name of its own", methods.put(method, tree) == null, true);
            callsOf.put(method, new TreeSet<>());
            long first = unit.getLineMap().getLineNumber(trees.getSourcePositions().getStartPosition(unit, tree));
            long last = unit.getLineMap().getLineNumber(trees.getSourcePositions().getEndPosition(unit, tree));
            C.due(method + " is short", last - first < 60, true);
            C.due(method + " has few parameters", tree.getParameters().size() <= 7, true);
            super.visitMethod(tree, none);
            method = "";
            return null;
        }

        @Override
        public Void visitMethodInvocation(MethodInvocationTree tree, Void none) {
            Element called = element(tree.getMethodSelect());
            String name = called.getEnclosingElement().getSimpleName() + "." + called.getSimpleName();
            if (isOwn(called)) {
                callsOf.get(method).add(name);
            } else if (!name.endsWith(".<init>")) {
                C.due("the library's " + name, LIBRARY.contains(name), true);
            }
            return super.visitMethodInvocation(tree, none);
        }

        private boolean isOwn(Element e) {
            Element top = e;
            while (top.getEnclosingElement().getKind() != ElementKind.PACKAGE) {
                top = top.getEnclosingElement();
            }
            return top.getSimpleName().contentEquals("RedHands");
        }

        @Override
        public Void visitNewClass(NewClassTree tree, Void none) {
            String made = element(tree.getIdentifier()).getSimpleName().toString();
            boolean thrown = getCurrentPath().getParentPath().getLeaf() instanceof ThrowTree;
            boolean field = method.isEmpty() || method.equals("RedHands.<init>");
            C.due(made + " is made for a throw, a field or a new wall", thrown || field, true);
            return super.visitNewClass(tree, none);
        }

        @Override
        public Void visitThrow(ThrowTree tree, Void none) {
            C.due("no throw in a constructor", method.endsWith("<init>"), false);
            C.due("what is thrown is made there", tree.getExpression() instanceof NewClassTree, true);
            return super.visitThrow(tree, none);
        }

        @Override
        public Void visitVariable(VariableTree tree, Void none) {
            TypeMirror of = trees.getTypeMirror(new TreePath(getCurrentPath(), tree.getType()));
            String name = of.toString().replace("[]", "");
            C.due("the type of " + method + " " + tree.getName(), PLAIN_TYPES.contains(name) || name.startsWith("RedHands"), true);
            return super.visitVariable(tree, none);
        }

        @Override
        public Void visitBinary(BinaryTree tree, Void none) {
            boolean text = isText(tree.getLeftOperand()) || isText(tree.getRightOperand());
            C.due("no text joined or held against another by " + tree.getKind() + " in " + method, text, false);
            return super.visitBinary(tree, none);
        }

        private boolean isText(Tree tree) {
            TypeMirror of = trees.getTypeMirror(new TreePath(getCurrentPath(), tree));
            return of != null && of.toString().equals("java.lang.String");
        }

        @Override
        public Void visitTry(TryTree tree, Void none) {
            C.due("no try in " + method, true, false);
            return super.visitTry(tree, none);
        }

        @Override
        public Void visitLambdaExpression(LambdaExpressionTree tree, Void none) {
            C.due("no lambda in " + method, true, false);
            return super.visitLambdaExpression(tree, none);
        }

        @Override
        public Void visitMemberReference(MemberReferenceTree tree, Void none) {
            C.due("no method reference in " + method, true, false);
            return super.visitMemberReference(tree, none);
        }
    }

    /** All methods that a call of this one leads to, on and on. */
    private Set<String> reach(String from) {
        Set<String> seen = new TreeSet<>();
        List<String> open = new ArrayList<>(callsOf.get(from));
        while (!open.isEmpty()) {
            String next = open.remove(open.size() - 1);
            if (seen.add(next)) {
                open.addAll(callsOf.getOrDefault(next, Set.of()));
            }
        }
        return seen;
    }

    /** The methods that call one another with this one; itself alone, if it is no recursion. */
    private Set<String> ring(String of) {
        Set<String> ring = new TreeSet<>(Set.of(of));
        for (String other : reach(of)) {
            if (callsOf.containsKey(other) && reach(other).contains(of)) {
                ring.add(other);
            }
        }
        return ring;
    }

    /** How deep the calls go from here, those that call one another counted as one. */
    private int deep(String from) {
        Set<String> ring = ring(from);
        int deepest = 0;
        for (String one : ring) {
            for (String next : callsOf.get(one)) {
                if (!ring.contains(next) && callsOf.containsKey(next)) {
                    deepest = Math.max(deepest, deep(next));
                }
            }
        }
        return deepest + 1;
    }

    /** Rule 11: calls that are no recursion go at most eight deep. */
    private void depth() {
        int deepest = 0;
        for (String from : callsOf.keySet()) {
            int deep = deep(from);
            deepest = Math.max(deepest, deep);
            C.due("calls of " + from + " go " + deep + " deep", deep <= DEEPEST, true);
        }
        C.due("some calls go deep, or nothing was read", deepest > 4, true);
    }

    /** Rule 8: what calls itself carries its depth as an argument. */
    private void recursion() {
        int many = 0;
        for (String name : callsOf.keySet()) {
            if (reach(name).contains(name)) {
                many++;
                boolean carries = false;
                for (VariableTree parameter : methods.get(name).getParameters()) {
                    carries |= parameter.getName().contentEquals("depth");
                }
                C.due(name + " carries its depth", carries, true);
            }
        }
        C.due("methods that call one another", many, 3);
    }
}
