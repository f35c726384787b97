import com.sun.source.tree.CompilationUnitTree;
import com.sun.source.tree.MethodInvocationTree;
import com.sun.source.tree.MethodTree;
import com.sun.source.util.JavacTask;
import com.sun.source.util.TreePath;
import com.sun.source.util.TreePathScanner;
import com.sun.source.util.Trees;
import java.io.IOException;
import java.util.ArrayList;
import java.util.HashSet;
import java.util.LinkedHashMap;
import java.util.LinkedHashSet;
import java.util.List;
import java.util.Map;
import java.util.Set;
import javax.lang.model.element.Element;
import javax.lang.model.element.ExecutableElement;
import javax.lang.model.element.Modifier;
import javax.lang.model.element.TypeElement;
import javax.tools.JavaCompiler;
import javax.tools.StandardJavaFileManager;
import javax.tools.ToolProvider;

/** LANGUAGE.md 11: calls that are no recursion go at most eight deep. Seen as javac sees the source. */
public final class DepthTest {
    private static final int MOST_DEEP = 8;
    private static final Due due = new Due("DepthTest");
    private static final Map<Element, Set<Element>> calls = new LinkedHashMap<>();

    public static void main(String[] args) throws IOException {
        JavaCompiler javac = ToolProvider.getSystemJavaCompiler();
        try (StandardJavaFileManager files = javac.getStandardFileManager(null, null, null)) {
            JavacTask task = (JavacTask) javac.getTask(null, files, null, List.of("-proc:none"), null,
                    files.getJavaFileObjects("src/main/java/GrownPost.java"));
            Iterable<? extends CompilationUnitTree> units = task.parse();
            task.analyze();
            for (CompilationUnitTree unit : units) {
                new Calls(Trees.instance(task)).scan(unit, null);
            }
            addOverriding(task);
        }
        int faces = 0;
        for (Element method : calls.keySet()) {
            if (method.getModifiers().contains(Modifier.PUBLIC)) {
                faces++;
                List<String> way = deepest(method, new HashSet<>());
                due.is(String.join(" > ", way) + ": deeper than eight", way.size() > MOST_DEEP, false);
                due.is("law() calls hardly anything", way.get(0).equals("law()") && way.size() < 4, false);
            }
        }
        due.is("the constructor and the methods of the face", faces, 54);
        due.close();
    }

    /** Learns which methods of the program each of them calls. */
    private static final class Calls extends TreePathScanner<Void, Element> {
        private final Trees trees;

        Calls(Trees trees) {
            this.trees = trees;
        }

        @Override
        public Void visitMethod(MethodTree method, Element within) {
            Element here = trees.getElement(getCurrentPath());
            calls.put(here, new LinkedHashSet<>());
            return super.visitMethod(method, here);
        }

        @Override
        public Void visitMethodInvocation(MethodInvocationTree call, Element within) {
            if (within != null) {
                calls.get(within).add(trees.getElement(new TreePath(getCurrentPath(), call.getMethodSelect())));
            }
            return super.visitMethodInvocation(call, within);
        }
    }

    /** Who calls a method may reach those that override it. */
    private static void addOverriding(JavacTask task) {
        for (Element above : calls.keySet()) {
            for (Element below : calls.keySet()) {
                TypeElement owner = (TypeElement) below.getEnclosingElement();
                if (task.getElements().overrides((ExecutableElement) below, (ExecutableElement) above, owner)) {
                    calls.get(above).add(below);
                }
            }
        }
    }

    /** The longest way of calls on which no method comes twice; an abstract one only leads on. */
    private static List<String> deepest(Element method, Set<Element> open) {
        List<String> longest = List.of();
        open.add(method);
        for (Element next : calls.get(method)) {
            if (calls.containsKey(next) && !open.contains(next)) {
                List<String> further = deepest(next, open);
                longest = further.size() > longest.size() ? further : longest;
            }
        }
        open.remove(method);
        if (method.getModifiers().contains(Modifier.ABSTRACT)) {
            return longest;
        }
        List<String> way = new ArrayList<>(List.of(method.toString()));
        way.addAll(longest);
        return way;
    }
}
