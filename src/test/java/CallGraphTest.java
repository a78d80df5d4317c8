import com.sun.source.tree.ClassTree;
import com.sun.source.tree.LambdaExpressionTree;
import com.sun.source.tree.MemberReferenceTree;
import com.sun.source.tree.MethodInvocationTree;
import com.sun.source.tree.MethodTree;
import com.sun.source.tree.NewClassTree;
import com.sun.source.util.JavacTask;
import com.sun.source.util.TreePath;
import com.sun.source.util.TreePathScanner;
import com.sun.source.util.Trees;
import java.io.IOException;
import java.nio.file.Path;
import java.util.ArrayList;
import java.util.HashSet;
import java.util.List;
import java.util.Map;
import java.util.Set;
import java.util.TreeMap;
import java.util.TreeSet;
import java.util.regex.Pattern;
import javax.lang.model.element.Element;
import javax.lang.model.element.ElementKind;
import javax.lang.model.element.Modifier;
import javax.tools.JavaCompiler;
import javax.tools.StandardJavaFileManager;
import javax.tools.ToolProvider;

/** What the class calls: rules 2, 4 and 11 of ../shared/LANGUAGE.md, read off the compiler's own tree. */
final class CallGraphTest {
    // The rule does not say whether the public method or the library's functions count; here neither does.
    private static final int DEEPEST = 8;

    private static final Pattern LIBRARY = Pattern.compile(
        "String\\.(length|charAt|isEmpty|equals|indexOf|substring|toCharArray|new)"
        + "|StringBuilder\\.(new|append|charAt|setCharAt|setLength|deleteCharAt|reverse|length|toString)"
        + "|(ArrayList|List)\\.(new|add|get|set|remove|size|isEmpty|clear|of)"
        + "|(Math|Integer|Long)\\.(?!\\w*Exact)\\w+|System\\.arraycopy|Arrays\\.(copyOf|copyOfRange|fill)|\\w*\\.clone"
        + "|(Iterator|Iterable|Comparable|Enum)\\.\\w+|(Object|Record)\\.new");

    private final Map<String, Set<String>> calls = new TreeMap<>();
    private final Set<String> entries = new TreeSet<>();
    private final Set<String> library = new TreeSet<>();

    private CallGraphTest() {
    }

    static void run(Check check, String file) throws IOException {
        JavaCompiler compiler = ToolProvider.getSystemJavaCompiler();
        if (compiler == null) {
            System.out.println("CallGraph: this java has no compiler, so the calls are not looked at");
            return;
        }
        CallGraphTest graph = new CallGraphTest();
        graph.read(compiler, file);
        check.that("the public methods were found", graph.entries.size() == 25);
        for (String used : graph.library) check.that("rules 2 and 4 forbid " + used, LIBRARY.matcher(used).matches());
        for (String entry : graph.entries) {
            List<String> chain = graph.longest(entry, new HashSet<>());
            check.that("rule 11 has no such depth: " + chain, chain.size() - 1 <= DEEPEST);
        }
    }

    private void read(JavaCompiler compiler, String file) throws IOException {
        try (StandardJavaFileManager files = compiler.getStandardFileManager(null, null, null)) {
            JavacTask task = (JavacTask) compiler.getTask(null, files, null, List.of("-proc:none"), null, files.getJavaFileObjects(Path.of(file)));
            var units = task.parse();
            task.analyze();
            Scanner scanner = new Scanner(Trees.instance(task));
            for (var unit : units) scanner.scan(unit, null);
        }
    }

    /** The longest chain of calls that begins here; a call that is a recursion adds nothing to it. */
    private List<String> longest(String method, Set<String> open) {
        List<String> best = List.of();
        open.add(method);
        for (String callee : calls.getOrDefault(method, Set.of())) {
            if (open.contains(callee)) continue;
            List<String> chain = longest(callee, open);
            if (reaches(callee, method, new HashSet<>())) chain = chain.subList(1, chain.size());
            if (chain.size() > best.size()) best = chain;
        }
        open.remove(method);
        List<String> whole = new ArrayList<>(List.of(method));
        whole.addAll(best);
        return whole;
    }

    private boolean reaches(String from, String to, Set<String> seen) {
        if (from.equals(to)) return true;
        if (!seen.add(from)) return false;
        for (String callee : calls.getOrDefault(from, Set.of())) {
            if (reaches(callee, to, seen)) return true;
        }
        return false;
    }

    /** Notes who calls whom. */
    private final class Scanner extends TreePathScanner<Void, Void> {
        private final Trees trees;
        private String method = "";

        Scanner(Trees trees) {
            this.trees = trees;
        }

        @Override
        public Void visitClass(ClassTree tree, Void nothing) {
            String before = method;
            // What stands outside all methods is a field's first value, which the constructor makes.
            method = tree.getSimpleName() + ".new";
            super.visitClass(tree, nothing);
            method = before;
            return null;
        }

        @Override
        public Void visitMethod(MethodTree tree, Void nothing) {
            Element element = trees.getElement(getCurrentPath());
            String before = method;
            method = nameOf(element);
            calls.computeIfAbsent(method, name -> new TreeSet<>());
            boolean outer = element.getEnclosingElement().getSimpleName().contentEquals("AffineRanges");
            if (outer && element.getModifiers().contains(Modifier.PUBLIC)) entries.add(method);
            super.visitMethod(tree, nothing);
            method = before;
            return null;
        }

        @Override
        public Void visitMethodInvocation(MethodInvocationTree tree, Void nothing) {
            note(trees.getElement(new TreePath(getCurrentPath(), tree.getMethodSelect())));
            return super.visitMethodInvocation(tree, nothing);
        }

        @Override
        public Void visitNewClass(NewClassTree tree, Void nothing) {
            note(trees.getElement(getCurrentPath()));
            return super.visitNewClass(tree, nothing);
        }

        @Override
        public Void visitLambdaExpression(LambdaExpressionTree tree, Void nothing) {
            library.add("a lambda");
            return super.visitLambdaExpression(tree, nothing);
        }

        @Override
        public Void visitMemberReference(MemberReferenceTree tree, Void nothing) {
            library.add("a method reference");
            return super.visitMemberReference(tree, nothing);
        }

        private void note(Element callee) {
            String name = nameOf(callee);
            if (isOwn(callee)) calls.computeIfAbsent(method, caller -> new TreeSet<>()).add(name);
            else library.add(name);
        }

        private boolean isOwn(Element callee) {
            Element outer = callee;
            while (outer.getEnclosingElement().getKind() != ElementKind.PACKAGE) outer = outer.getEnclosingElement();
            return outer.getSimpleName().contentEquals("AffineRanges");
        }

        private String nameOf(Element element) {
            String name = element.getKind() == ElementKind.CONSTRUCTOR ? "new" : element.getSimpleName().toString();
            return element.getEnclosingElement().getSimpleName() + "." + name;
        }
    }
}
