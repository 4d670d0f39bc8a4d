import com.sun.source.tree.ClassTree;
import com.sun.source.tree.CompilationUnitTree;
import com.sun.source.tree.ExpressionTree;
import com.sun.source.tree.MemberSelectTree;
import com.sun.source.tree.MethodInvocationTree;
import com.sun.source.tree.MethodTree;
import com.sun.source.tree.NewArrayTree;
import com.sun.source.tree.NewClassTree;
import com.sun.source.util.JavacTask;
import com.sun.source.util.TreePath;
import com.sun.source.util.TreePathScanner;
import com.sun.source.util.Trees;
import java.io.File;
import java.io.IOException;
import java.util.ArrayList;
import java.util.List;
import java.util.Map;
import java.util.Set;
import java.util.TreeMap;
import java.util.TreeSet;
import javax.lang.model.element.Element;
import javax.lang.model.element.ElementKind;
import javax.lang.model.element.ExecutableElement;
import javax.lang.model.element.Modifier;
import javax.lang.model.element.TypeElement;
import javax.lang.model.util.Elements;
import javax.tools.JavaCompiler;
import javax.tools.StandardJavaFileManager;
import javax.tools.ToolProvider;

/** Who calls whom in VoiceNets.java (LANGUAGE.md, rules 4, 8, 11, 12), as the compiler understands it. */
public final class CallsTest extends TreePathScanner<Void, Void> {
    private static final int DEEPEST = 8;
    private static final Set<String> LIBRARY = Set.of("String.length", "String.charAt", "Math.max", "Math.min", "Math.abs",
        "Integer.bitCount", "System.arraycopy", "Arrays.fill");

    private final Trees trees;
    private final Elements elements;
    private final Map<String, ExecutableElement> methods = new TreeMap<>();
    private final Map<String, Set<String>> calls = new TreeMap<>();
    private final Set<String> never = new TreeSet<>();
    private int wrong = 0;

    private CallsTest(Trees trees, Elements elements) {
        this.trees = trees;
        this.elements = elements;
    }

    private void check(boolean so, String what) {
        if (!so) {
            wrong++;
            System.out.println(what);
        }
    }

    private static String nameOf(Element e) {
        return e.getEnclosingElement().getSimpleName() + "." + e.getSimpleName();
    }

    private static TypeElement classOf(Element e) {
        return (TypeElement) e.getEnclosingElement();
    }

    private boolean isOwn(Element e) {
        return elements.getPackageOf(e).isUnnamed();
    }

    // ---- what stands in the file

    private final class Declared extends TreePathScanner<Void, Void> {
        @Override
        public Void visitMethod(MethodTree tree, Void none) {
            ExecutableElement method = (ExecutableElement) trees.getElement(getCurrentPath());
            if (method.getKind() == ElementKind.METHOD) {
                check(methods.put(nameOf(method), method) == null, "two methods named " + nameOf(method));
                calls.put(nameOf(method), new TreeSet<>());
            }
            return super.visitMethod(tree, none);
        }
    }

    /** The method in which something stands; null in a constructor or a field's initialiser. */
    private ExecutableElement methodAround(TreePath path) {
        for (TreePath p = path; p != null; p = p.getParentPath()) {
            if (p.getLeaf() instanceof MethodTree) {
                Element e = trees.getElement(p);
                return e.getKind() == ElementKind.METHOD ? (ExecutableElement) e : null;
            }
            if (p.getLeaf() instanceof ClassTree) return null;
        }
        return null;
    }

    @Override
    public Void visitMethodInvocation(MethodInvocationTree tree, Void none) {
        ExecutableElement called = (ExecutableElement) trees.getElement(getCurrentPath());
        ExecutableElement by = methodAround(getCurrentPath());
        if (called.getKind() == ElementKind.METHOD) {
            if (!isOwn(called)) check(LIBRARY.contains(nameOf(called)), "not of the library: " + nameOf(called));
            if (by != null) addCalls(calls.get(nameOf(by)), called, isOfSuper(tree.getMethodSelect()));
        }
        return super.visitMethodInvocation(tree, none);
    }

    private static boolean isOfSuper(ExpressionTree select) {
        return select instanceof MemberSelectTree && ((MemberSelectTree) select).getExpression().toString().equals("super");
    }

    private void addCalls(Set<String> of, ExecutableElement called, boolean thatOneAlone) {
        of.add(nameOf(called));
        if (thatOneAlone) return;
        for (ExecutableElement m : methods.values()) {
            if (elements.overrides(m, called, classOf(m))) of.add(nameOf(m));
        }
    }

    @Override
    public Void visitNewClass(NewClassTree tree, Void none) {
        check(methodAround(getCurrentPath()) == null, "a call makes an object: " + tree);
        return super.visitNewClass(tree, none);
    }

    @Override
    public Void visitNewArray(NewArrayTree tree, Void none) {
        check(methodAround(getCurrentPath()) == null, "a call makes an array: " + tree);
        return super.visitNewArray(tree, none);
    }

    // ---- how deep

    /** Each method once on a way: what comes again is recursion. */
    private void goDown(String method, List<String> way) {
        if (way.contains(method)) return;
        way.add(method);
        if (way.size() > DEEPEST) {
            never.add("deeper than " + DEEPEST + ": " + way);
        } else {
            for (String next : calls.getOrDefault(method, Set.of())) goDown(next, way);
        }
        way.remove(way.size() - 1);
    }

    private boolean reaches(String from, String to, Set<String> seen) {
        for (String next : calls.getOrDefault(from, Set.of())) {
            if (next.equals(to) || seen.add(next) && reaches(next, to, seen)) return true;
        }
        return false;
    }

    private void depths() {
        int open = 0;
        for (Map.Entry<String, ExecutableElement> m : methods.entrySet()) {
            if (m.getValue().getModifiers().contains(Modifier.PUBLIC)) {
                open++;
                goDown(m.getKey(), new ArrayList<>());
            }
            if (reaches(m.getKey(), m.getKey(), new TreeSet<>())) {
                check(m.getValue().getModifiers().contains(Modifier.PRIVATE), "recursion that isn't private: " + m.getKey());
                check(!m.getValue().getParameters().isEmpty(), "recursion that carries no depth: " + m.getKey());
            }
        }
        check(open == 49, "public methods: " + open);
        for (String n : never) check(false, n);
    }

    private void unused() {
        Set<String> used = new TreeSet<>();
        for (Set<String> s : calls.values()) used.addAll(s);
        for (ExecutableElement m : methods.values()) {
            check(used.contains(nameOf(m)) || m.getModifiers().contains(Modifier.PUBLIC), "nobody calls " + nameOf(m));
        }
    }

    public static void main(String[] args) throws IOException {
        JavaCompiler compiler = ToolProvider.getSystemJavaCompiler();
        try (StandardJavaFileManager files = compiler.getStandardFileManager(null, null, null)) {
            JavacTask task = (JavacTask) compiler.getTask(null, files, null, List.of("-proc:none"), null,
                files.getJavaFileObjects(new File("src/main/java/VoiceNets.java")));
            Iterable<? extends CompilationUnitTree> units = task.parse();
            task.analyze();
            CallsTest test = new CallsTest(Trees.instance(task), task.getElements());
            for (CompilationUnitTree unit : units) test.new Declared().scan(new TreePath(unit), null);
            for (CompilationUnitTree unit : units) test.scan(new TreePath(unit), null);
            test.depths();
            test.unused();
            System.out.println(test.wrong == 0 ? "who calls whom is as due" : test.wrong + " faults of calls");
            if (test.wrong != 0) System.exit(1);
        }
    }
}
