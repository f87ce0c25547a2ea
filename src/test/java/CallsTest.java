import com.sun.source.tree.CompilationUnitTree;
import com.sun.source.tree.MethodInvocationTree;
import com.sun.source.tree.MethodTree;
import com.sun.source.tree.NewArrayTree;
import com.sun.source.tree.NewClassTree;
import com.sun.source.tree.VariableTree;
import com.sun.source.util.JavacTask;
import com.sun.source.util.TreePath;
import com.sun.source.util.TreePathScanner;
import com.sun.source.util.Trees;
import java.io.File;
import java.io.IOException;
import java.util.ArrayList;
import java.util.HashSet;
import java.util.List;
import java.util.Map;
import java.util.Set;
import java.util.TreeMap;
import java.util.TreeSet;
import javax.lang.model.element.Element;
import javax.lang.model.element.ElementKind;
import javax.lang.model.element.Modifier;
import javax.tools.JavaCompiler;
import javax.tools.StandardJavaFileManager;
import javax.tools.ToolProvider;

/**
 * The rules of LANGUAGE.md on calls, by what javac itself understood of the source: which library is called (4),
 * which methods call one another in a ring (8), how deep calls go (11), where objects are made (12).
 */
public final class CallsTest {
    private static final Set<String> LIBRARY = Set.of(
            "java.lang.String.length", "java.lang.String.charAt", "java.lang.System.arraycopy", "java.util.Arrays.fill",
            "java.lang.Math.min", "java.lang.Math.max", "java.lang.Integer.bitCount");
    // A sentence's grammar is the one recursion; the document's limit of 8 within one another keeps it low.
    private static final Set<String> RING = Set.of("Sentence.readCondition", "Sentence.readAll", "Sentence.readOne");
    private static final int DEEPEST = 8;

    private static final Map<String, Set<String>> CALLS = new TreeMap<>();
    private static final Set<String> FACE = new TreeSet<>();

    private CallsTest() {
    }

    public static void main(String[] args) throws IOException {
        JavaCompiler compiler = ToolProvider.getSystemJavaCompiler();
        try (StandardJavaFileManager files = compiler.getStandardFileManager(null, null, null)) {
            JavacTask task = (JavacTask) compiler.getTask(null, files, null, List.of("-proc:none"), null,
                    files.getJavaFileObjects(new File("src/main/java/RuleByLot.java")));
            List<CompilationUnitTree> units = new ArrayList<>();
            task.parse().forEach(units::add);
            task.analyze();
            units.forEach(unit -> new Look(Trees.instance(task)).scan(unit, null));
        }
        Checks.due("only " + CALLS.size() + " methods seen", CALLS.size() > 150, true);
        Checks.due("methods of the face " + FACE, FACE.size(), 38);
        // Through a ring that is not known a chain would never end.
        if (rings()) {
            depth();
        }
        Checks.finish("CallsTest");
    }

    /** Walks the source with the method it is in at hand. */
    private static final class Look extends TreePathScanner<Void, Void> {
        private final Trees trees;
        private String method = "fields";
        private boolean inConstructor;

        Look(Trees trees) {
            this.trees = trees;
        }

        @Override
        public Void visitMethod(MethodTree tree, Void none) {
            Element element = trees.getElement(getCurrentPath());
            method = nameOf(element);
            inConstructor = element.getKind() == ElementKind.CONSTRUCTOR;
            CALLS.putIfAbsent(method, new TreeSet<>());
            if (element.getModifiers().contains(Modifier.PUBLIC) && !inConstructor) {
                FACE.add(method);
            }
            return super.visitMethod(tree, none);
        }

        @Override
        public Void visitMethodInvocation(MethodInvocationTree tree, Void none) {
            noteCall(trees.getElement(new TreePath(getCurrentPath(), tree.getMethodSelect())));
            return super.visitMethodInvocation(tree, none);
        }

        @Override
        public Void visitNewClass(NewClassTree tree, Void none) {
            Element made = trees.getElement(getCurrentPath());
            boolean isException = made.getEnclosingElement().toString().equals("java.util.NoSuchElementException");
            Checks.due("in " + method + " is made: " + tree, isException || inConstructor, true);
            if (!isException) {
                noteCall(made);
            }
            return super.visitNewClass(tree, none);
        }

        @Override
        public Void visitNewArray(NewArrayTree tree, Void none) {
            boolean isConstant = getCurrentPath().getParentPath().getLeaf() instanceof VariableTree v
                    && v.getModifiers().getFlags().contains(Modifier.STATIC);
            Checks.due("in " + method + " is made: " + tree, isConstant || inConstructor, true);
            return super.visitNewArray(tree, none);
        }

        private void noteCall(Element called) {
            String owner = called.getEnclosingElement().toString();
            if (owner.startsWith("RuleByLot")) {
                CALLS.computeIfAbsent(method, k -> new TreeSet<>()).add(nameOf(called));
            } else if (called.getKind() != ElementKind.CONSTRUCTOR) {
                String name = owner + "." + called.getSimpleName();
                Checks.due("the library's " + name + " is on the list", LIBRARY.contains(name), true);
            }
        }

        private static String nameOf(Element method) {
            String owner = method.getEnclosingElement().getSimpleName().toString();
            return owner + "." + method.getSimpleName();
        }
    }

    private static Set<String> reached(String from) {
        Set<String> all = new HashSet<>();
        List<String> open = new ArrayList<>(CALLS.getOrDefault(from, Set.of()));
        while (!open.isEmpty()) {
            String next = open.remove(open.size() - 1);
            if (all.add(next)) {
                open.addAll(CALLS.getOrDefault(next, Set.of()));
            }
        }
        return all;
    }

    private static boolean rings() {
        boolean known = true;
        for (String method : CALLS.keySet()) {
            boolean comesBack = reached(method).contains(method);
            Checks.due(method + " comes back to itself", comesBack, RING.contains(method));
            known &= comesBack == RING.contains(method);
        }
        return known;
    }

    private static void depth() {
        for (String method : FACE) {
            List<String> chain = longest(method);
            Checks.due("a chain of " + chain.size() + ": " + chain, chain.size() <= DEEPEST, true);
        }
    }

    /** The ring of a sentence counts as one call, as what it calls is called from within it. */
    private static List<String> longest(String method) {
        Set<String> called = new TreeSet<>(CALLS.getOrDefault(method, Set.of()));
        if (RING.contains(method)) {
            for (String one : RING) {
                called.addAll(CALLS.getOrDefault(one, Set.of()));
            }
            called.removeAll(RING);
        }
        List<String> best = List.of();
        for (String next : called) {
            List<String> chain = longest(next);
            best = chain.size() > best.size() ? chain : best;
        }
        List<String> all = new ArrayList<>(List.of(method));
        all.addAll(best);
        return all;
    }
}
