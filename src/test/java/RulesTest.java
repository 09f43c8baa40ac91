import com.sun.source.tree.CompilationUnitTree;
import com.sun.source.tree.MethodInvocationTree;
import com.sun.source.tree.MethodTree;
import com.sun.source.tree.NewArrayTree;
import com.sun.source.tree.NewClassTree;
import com.sun.source.tree.VariableTree;
import com.sun.source.util.JavacTask;
import com.sun.source.util.TreePath;
import com.sun.source.util.TreePathScanner;
import com.sun.source.util.Trees;
import java.io.IOException;
import java.nio.file.Path;
import java.util.ArrayDeque;
import java.util.Deque;
import java.util.List;
import java.util.Map;
import java.util.Set;
import java.util.TreeMap;
import java.util.TreeSet;
import javax.lang.model.element.Element;
import javax.lang.model.element.ElementKind;
import javax.lang.model.element.Modifier;
import javax.lang.model.type.ArrayType;
import javax.lang.model.type.TypeKind;
import javax.lang.model.type.TypeMirror;
import javax.tools.JavaCompiler;
import javax.tools.StandardJavaFileManager;
import javax.tools.ToolProvider;

/** Those rules of LANGUAGE.md that need the compiler's own reading of the class: calls, types, what is made where. */
public final class RulesTest extends TreePathScanner<Void, Void> {
    private static final Due TEST = new Due("RulesTest");
    private static final Path SOURCE = Path.of("src/main/java/RdsDesk.java");
    private static final Set<String> LIBRARY = Set.of("java.util.Arrays.fill", "java.lang.System.arraycopy",
            "java.lang.Math.min", "java.lang.Math.floorMod", "java.lang.Math.floorDiv", "java.lang.Object.<init>");
    private static final int DEEPEST = 8;
    private static final String INITIALISERS = ".fields";

    private final Trees trees;
    private final Map<String, Set<String>> calls = new TreeMap<>();
    private final Deque<String> within = new ArrayDeque<>();

    private RulesTest(Trees trees) {
        this.trees = trees;
    }

    public static void main(String[] args) throws IOException {
        JavaCompiler compiler = ToolProvider.getSystemJavaCompiler();
        try (StandardJavaFileManager files = compiler.getStandardFileManager(null, null, null)) {
            JavacTask task = (JavacTask) compiler.getTask(null, files, null, List.of("-proc:none"), null,
                    files.getJavaFileObjects(SOURCE));
            Iterable<? extends CompilationUnitTree> units = task.parse();
            task.analyze();
            RulesTest rules = new RulesTest(Trees.instance(task));
            for (CompilationUnitTree unit : units) {
                rules.scan(new TreePath(unit), null);
            }
            rules.depths();
        }
        TEST.end();
    }

    private static String nameOf(Element element) {
        return element.getEnclosingElement() + "." + element.getSimpleName();
    }

    private Element element() {
        return trees.getElement(getCurrentPath());
    }

    @Override
    public Void visitMethod(MethodTree tree, Void nothing) {
        within.push(nameOf(element()));
        // Overloads would be one name here: the class has none.
        TEST.about("one method of each name");
        TEST.due(within.peek(), calls.containsKey(within.peek()), false);
        calls.put(within.peek(), new TreeSet<>());
        if (element().getKind() == ElementKind.CONSTRUCTOR) {
            calls.get(within.peek()).add(element().getEnclosingElement() + INITIALISERS);
        }
        super.visitMethod(tree, nothing);
        within.pop();
        return null;
    }

    @Override
    public Void visitVariable(VariableTree tree, Void nothing) {
        TEST.about("rule 3: types");
        TEST.due(tree + " is an int, a boolean, of an own class or a row of such", isPlain(element().asType()), true);
        if (element().getKind() != ElementKind.FIELD) {
            return super.visitVariable(tree, nothing);
        }
        boolean isStatic = element().getModifiers().contains(Modifier.STATIC);
        within.push(element().getEnclosingElement() + (isStatic ? ".constants" : INITIALISERS));
        super.visitVariable(tree, nothing);
        within.pop();
        return null;
    }

    private static boolean isPlain(TypeMirror type) {
        if (type.getKind() == TypeKind.ARRAY) {
            TypeMirror element = ((ArrayType) type).getComponentType();
            return element.getKind() != TypeKind.ARRAY && isPlain(element);
        }
        return type.getKind() == TypeKind.INT || type.getKind() == TypeKind.BOOLEAN
                || type.toString().startsWith("RdsDesk");
    }

    private void call(Element called) {
        String name = nameOf(called);
        boolean isOwn = name.startsWith("RdsDesk");
        TEST.about("rule 4: the library");
        TEST.due(name + " is the class's own or listed", isOwn || LIBRARY.contains(name), true);
        calls.computeIfAbsent(within.peek(), from -> new TreeSet<>()).add(name);
    }

    @Override
    public Void visitMethodInvocation(MethodInvocationTree tree, Void nothing) {
        call(element());
        return super.visitMethodInvocation(tree, nothing);
    }

    @Override
    public Void visitNewClass(NewClassTree tree, Void nothing) {
        made(tree.toString());
        call(element());
        return super.visitNewClass(tree, nothing);
    }

    @Override
    public Void visitNewArray(NewArrayTree tree, Void nothing) {
        made(tree.toString());
        return super.visitNewArray(tree, nothing);
    }

    private void made(String what) {
        TEST.about("the room: what is made is made with the desk");
        TEST.due(what + " in " + within.peek(), within.peek().matches(".*\\.(<init>|fields|constants)"), true);
    }

    private void depths() {
        TEST.about("rules 8 and 11: no recursion, calls at most " + DEEPEST + " deep");
        int deepest = 0;
        for (String method : calls.keySet()) {
            int depth = depth(method, 1);
            TEST.due(method + " goes " + depth + " deep", depth <= DEEPEST, true);
            deepest = Math.max(deepest, depth);
        }
        TEST.due("some calls go deeper than three", deepest > 3, true);
    }

    /** How many calls stand open at once at most, the method's own among them; a cycle goes beyond every bound. */
    private int depth(String method, int level) {
        int deepest = level;
        for (String called : calls.getOrDefault(method, Set.of())) {
            boolean isCall = !called.endsWith(INITIALISERS);
            if (level <= DEEPEST) {
                deepest = Math.max(deepest, depth(called, isCall ? level + 1 : level));
            }
        }
        return deepest;
    }
}
