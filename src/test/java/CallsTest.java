import com.sun.source.tree.CompilationUnitTree;
import com.sun.source.tree.MethodInvocationTree;
import com.sun.source.tree.MethodTree;
import com.sun.source.tree.NewClassTree;
import com.sun.source.tree.Tree;
import com.sun.source.util.JavacTask;
import com.sun.source.util.TreePath;
import com.sun.source.util.TreePathScanner;
import com.sun.source.util.Trees;
import java.nio.file.Path;
import java.util.ArrayDeque;
import java.util.ArrayList;
import java.util.Deque;
import java.util.List;
import java.util.Map;
import java.util.Set;
import java.util.TreeMap;
import java.util.TreeSet;
import javax.lang.model.element.Element;
import javax.lang.model.element.ElementKind;
import javax.lang.model.element.Modifier;
import javax.lang.model.element.TypeElement;
import javax.tools.JavaCompiler;
import javax.tools.StandardJavaFileManager;
import javax.tools.ToolProvider;

/**
 * What calls what in the class, as the compiler sees it, against rules 4, 8, 11 and 12 of LANGUAGE.md:
 * how deep calls go, which ones come back to themselves, and what of the library is used.
 */
public final class CallsTest {
    private static final Path SOURCE = Path.of("src/main/java/ShadowRowDesk.java");

    private static final int DEPTH_LIMIT = 8;

    /** The grammar's four, which pass on how many brackets are open; no other call may come back to itself. */
    private static final Set<String> RECURSIVE = Set.of(
            "Text.standsSum", "Text.standsProduct", "Text.standsPower", "Text.standsThing");

    /** Of what LANGUAGE.md lists the class needs these alone; super() is every constructor's own. */
    private static final Set<String> LIBRARY = Set.of("System.arraycopy", "Math.min", "Object.new");

    private static final Map<String, Set<String>> CALLED_BY = new TreeMap<>();
    private static final Set<String> FACE = new TreeSet<>();
    private static final Set<String> OVERRIDABLE = new TreeSet<>();

    private static int wrong = 0;
    private static List<String> deepest = new ArrayList<>();

    private CallsTest() {
    }

    public static void main(String[] args) throws Exception {
        lookThrough();
        hold(FACE.size() == 33, "the face has " + FACE.size() + " calls and constructors");
        for (String name : FACE) {
            goDeeper(name, new ArrayDeque<>());
        }
        hold(deepest.size() <= DEPTH_LIMIT, "calls go deeper than " + DEPTH_LIMIT + ": " + deepest);
        recursion();
        library();
        hold(OVERRIDABLE.isEmpty(), "another class could override " + OVERRIDABLE);
        unused();
        System.out.println("calls go " + deepest.size() + " deep, " + wrong + " wrong");
        if (wrong != 0) {
            System.exit(1);
        }
    }

    private static void hold(boolean holds, String what) {
        if (!holds) {
            wrong++;
            System.out.println(what);
        }
    }

    private static void lookThrough() throws Exception {
        JavaCompiler compiler = ToolProvider.getSystemJavaCompiler();
        try (StandardJavaFileManager files = compiler.getStandardFileManager(null, null, null)) {
            JavacTask task = (JavacTask) compiler.getTask(
                    null, files, null, List.of("--release", "17"), null, files.getJavaFileObjects(SOURCE));
            List<CompilationUnitTree> units = new ArrayList<>();
            task.parse().forEach(units::add);
            task.analyze();
            for (CompilationUnitTree unit : units) {
                new Calls(Trees.instance(task)).scan(unit, null);
            }
        }
    }

    private static String nameOf(Element member) {
        String type = member.getEnclosingElement().getSimpleName().toString();
        boolean isConstructor = member.getKind() == ElementKind.CONSTRUCTOR;
        return type + "." + (isConstructor ? "new" : member.getSimpleName().toString());
    }

    /** Puts each call down with the method or constructor in which it stands. */
    private static final class Calls extends TreePathScanner<Void, Void> {
        private final Trees trees;

        Calls(Trees trees) {
            this.trees = trees;
        }

        @Override
        public Void visitMethod(MethodTree method, Void nothing) {
            Element member = trees.getElement(getCurrentPath());
            CALLED_BY.computeIfAbsent(nameOf(member), name -> new TreeSet<>());
            if (member.getModifiers().contains(Modifier.PUBLIC)) {
                FACE.add(nameOf(member));
            }
            if (!((TypeElement) member.getEnclosingElement()).getModifiers().contains(Modifier.FINAL)) {
                OVERRIDABLE.add(nameOf(member));
            }
            return super.visitMethod(method, nothing);
        }

        @Override
        public Void visitMethodInvocation(MethodInvocationTree call, Void nothing) {
            putDown(call);
            return super.visitMethodInvocation(call, nothing);
        }

        @Override
        public Void visitNewClass(NewClassTree call, Void nothing) {
            putDown(call);
            return super.visitNewClass(call, nothing);
        }

        private void putDown(Tree call) {
            Element called = trees.getElement(new TreePath(getCurrentPath().getParentPath(), call));
            CALLED_BY.computeIfAbsent(callerOf(getCurrentPath()), name -> new TreeSet<>()).add(nameOf(called));
        }

        /** A field's first value is reckoned by the constructor. */
        private String callerOf(TreePath path) {
            for (TreePath at = path; at != null; at = at.getParentPath()) {
                if (at.getLeaf() instanceof MethodTree) {
                    return nameOf(trees.getElement(at));
                }
                if (at.getLeaf().getKind() == Tree.Kind.CLASS) {
                    return trees.getElement(at).getSimpleName() + ".new";
                }
            }
            throw new IllegalStateException("a call outside every class");
        }
    }

    private static boolean isOwn(String name) {
        return CALLED_BY.containsKey(name);
    }

    /** The longest chain without any method twice; what the library does inside is its own. */
    private static void goDeeper(String name, Deque<String> open) {
        if (!isOwn(name) || open.contains(name)) {
            return;
        }
        open.addLast(name);
        if (open.size() > deepest.size()) {
            deepest = new ArrayList<>(open);
        }
        for (String called : CALLED_BY.get(name)) {
            goDeeper(called, open);
        }
        open.removeLast();
    }

    private static void recursion() {
        Set<String> found = new TreeSet<>();
        for (String name : CALLED_BY.keySet()) {
            Set<String> reached = new TreeSet<>();
            for (String called : CALLED_BY.get(name)) {
                reach(called, reached);
            }
            if (reached.contains(name)) {
                found.add(name);
            }
        }
        hold(found.equals(new TreeSet<>(RECURSIVE)), "what comes back to itself is " + found);
    }

    private static void reach(String name, Set<String> reached) {
        if (isOwn(name) && reached.add(name)) {
            for (String called : CALLED_BY.get(name)) {
                reach(called, reached);
            }
        }
    }

    private static void library() {
        for (Map.Entry<String, Set<String>> each : CALLED_BY.entrySet()) {
            for (String called : each.getValue()) {
                hold(isOwn(called) || LIBRARY.contains(called), each.getKey() + " uses the library's " + called);
            }
        }
    }

    /** What no call of the face reaches is no part of the program; Numbers is never made, and says so. */
    private static void unused() {
        Set<String> reached = new TreeSet<>();
        for (String name : FACE) {
            reach(name, reached);
        }
        for (String name : CALLED_BY.keySet()) {
            hold(reached.contains(name) || name.equals("Numbers.new"), "no call reaches " + name);
        }
    }
}
