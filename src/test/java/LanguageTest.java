import com.sun.source.tree.*;
import com.sun.source.util.JavacTask;
import com.sun.source.util.TreeScanner;
import java.nio.file.Files;
import java.nio.file.Path;
import java.util.HashSet;
import java.util.LinkedHashMap;
import java.util.List;
import java.util.Map;
import java.util.Set;
import java.util.TreeSet;
import javax.lang.model.element.Modifier;
import javax.tools.JavaCompiler;
import javax.tools.StandardJavaFileManager;
import javax.tools.ToolProvider;

/** The rules of LANGUAGE.md that can be seen in the source by a machine. */
public final class LanguageTest {
    private static final Path SOURCE = Path.of("src/main/java/HalfAJoke.java");
    private static final Set<Tree.Kind> BARRED = Set.of(Tree.Kind.THROW, Tree.Kind.TRY, Tree.Kind.CATCH, Tree.Kind.SYNCHRONIZED,
        Tree.Kind.ASSERT, Tree.Kind.LAMBDA_EXPRESSION, Tree.Kind.MEMBER_REFERENCE, Tree.Kind.IMPORT, Tree.Kind.PACKAGE);
    private static final Set<String> LIBRARY = Set.of("Math.max", "Math.min", "Math.abs", "System.arraycopy",
        "SIGNS.indexOf", "KEYWORDS.charAt");

    private static final Map<String, Set<String>> CALLS = new LinkedHashMap<>();
    private static final Set<String> LIBRARY_CALLS = new TreeSet<>();

    private static final class Scan extends TreeScanner<Void, String> {
        final CompilationUnitTree unit;

        Scan(CompilationUnitTree unit) {
            this.unit = unit;
        }

        @Override
        public Void scan(Tree tree, String method) {
            if (tree != null) Check.due(tree.getKind() + " in " + method, BARRED.contains(tree.getKind()), false);
            return super.scan(tree, method);
        }

        @Override
        public Void visitClass(ClassTree c, String method) {
            Check.due("a class in a method " + c.getSimpleName(), method.isEmpty(), true);
            int fields = 0;
            for (Tree t : c.getMembers()) {
                if (!(t instanceof VariableTree v)) continue;
                Set<Modifier> m = v.getModifiers().getFlags();
                if (!m.contains(Modifier.STATIC)) fields++;
                else Check.due(v.getName() + " is final", m.contains(Modifier.FINAL), true);
            }
            Check.due("fields of " + c.getSimpleName(), fields <= 20, true);
            return super.visitClass(c, method);
        }

        @Override
        public Void visitMethod(MethodTree m, String method) {
            Check.due("parameters of " + m.getName(), m.getParameters().size() <= 7, true);
            Check.due("lines of " + m.getName(), m.toString().split("\n").length <= 60, true);
            String name = m.getName().toString();
            CALLS.computeIfAbsent(name, k -> new TreeSet<>());
            return super.visitMethod(m, name);
        }

        @Override
        public Void visitNewClass(NewClassTree n, String method) {
            Check.due("a body behind new " + n.getIdentifier(), n.getClassBody() == null, true);
            return super.visitNewClass(n, method);
        }

        @Override
        public Void visitMethodInvocation(MethodInvocationTree call, String method) {
            ExpressionTree e = call.getMethodSelect();
            String whole = e.toString();
            if (e instanceof MemberSelectTree s) {
                boolean library = s.getExpression().toString().matches("[A-Z][A-Za-z]*");
                if (library) LIBRARY_CALLS.add(whole);
                else CALLS.get(method).add(s.getIdentifier().toString());
            } else if (!whole.equals("super")) {
                CALLS.get(method).add(whole);
            }
            return super.visitMethodInvocation(call, method);
        }
    }

    /** How many calls stand open at the most, each method once. */
    private static int depth(String method, Set<String> open) {
        if (open.contains(method) || !CALLS.containsKey(method)) return 0;
        open.add(method);
        int most = 0;
        for (String called : CALLS.get(method)) most = Math.max(most, depth(called, open));
        open.remove(method);
        return most + 1;
    }

    private static void signs() throws Exception {
        byte[] bytes = Files.readAllBytes(SOURCE);
        for (byte b : bytes) {
            if (b != '\n' && (b < 32 || b > 126)) Check.due("a sign of the source", b, 32);
        }
    }

    public static void main(String[] args) throws Exception {
        signs();
        JavaCompiler compiler = ToolProvider.getSystemJavaCompiler();
        try (StandardJavaFileManager files = compiler.getStandardFileManager(null, null, null)) {
            JavacTask task = (JavacTask) compiler.getTask(null, files, null, List.of("-proc:none"), null, files.getJavaFileObjects(SOURCE));
            for (CompilationUnitTree unit : task.parse()) new Scan(unit).scan(unit, "");
        }
        for (String call : LIBRARY_CALLS) Check.due("the library's " + call, LIBRARY.contains(call), true);
        for (String method : CALLS.keySet()) Check.due("calls below " + method, depth(method, new HashSet<>()) <= 8, true);
        Check.finish();
    }
}
