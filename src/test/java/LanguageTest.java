import com.sun.source.tree.*;
import com.sun.source.util.JavacTask;
import com.sun.source.util.TreePath;
import com.sun.source.util.TreePathScanner;
import com.sun.source.util.Trees;
import java.io.File;
import java.util.ArrayDeque;
import java.util.ArrayList;
import java.util.Deque;
import java.util.HashMap;
import java.util.HashSet;
import java.util.LinkedHashMap;
import java.util.List;
import java.util.Map;
import java.util.Set;
import java.util.TreeSet;
import javax.lang.model.element.Element;
import javax.lang.model.element.ElementKind;
import javax.lang.model.element.ExecutableElement;
import javax.lang.model.element.Modifier;
import javax.lang.model.element.TypeElement;
import javax.lang.model.element.VariableElement;
import javax.tools.JavaCompiler;
import javax.tools.StandardJavaFileManager;
import javax.tools.ToolProvider;

/** What of LANGUAGE.md can be told from the source: the face, forbidden forms, the library, lengths, depths of calls. */
public final class LanguageTest {
    private static final Set<String> FACE = new TreeSet<>(List.of("lane", "at", "child", "of", "asks", "terms", "feed",
            "end", "row", "gravel", "law", "orders", "fault", "stopped", "force", "wander", "cry", "lead", "pass",
            "undo", "where", "far", "found", "post", "posts", "again", "hear", "forget", "gone", "named", "letter",
            "apart", "alike", "round", "dead", "few", "compare", "decades", "drawn", "image", "back", "count", "status"));
    private static final Set<String> LIBRARY = Set.of("java.lang.Object.<init>", "java.lang.String.length",
            "java.lang.String.charAt", "java.lang.String.equals", "java.lang.Math.max", "java.lang.Math.min",
            "java.lang.Math.abs", "java.lang.Integer.bitCount", "java.lang.System.arraycopy", "java.util.Arrays.fill",
            "java.util.Arrays.copyOf", "java.util.Arrays.copyOfRange");
    private static final Set<Tree.Kind> FORBIDDEN = Set.of(Tree.Kind.THROW, Tree.Kind.TRY, Tree.Kind.CATCH,
            Tree.Kind.SYNCHRONIZED, Tree.Kind.ASSERT, Tree.Kind.LAMBDA_EXPRESSION, Tree.Kind.MEMBER_REFERENCE,
            Tree.Kind.YIELD);

    private static int wrong;
    private static CompilationUnitTree unit;
    private static Trees trees;
    private static final Map<Element, Set<Element>> CALLS = new LinkedHashMap<>();

    private LanguageTest() {
    }

    private static void no(Tree where, String what) {
        wrong++;
        long line = where == null ? 0 : line(trees.getSourcePositions().getStartPosition(unit, where));
        System.out.println("LostLanes.java:" + line + ": " + what);
    }

    private static long line(long position) {
        return unit.getLineMap().getLineNumber(position);
    }

    public static void main(String[] args) throws Exception {
        JavaCompiler compiler = ToolProvider.getSystemJavaCompiler();
        StandardJavaFileManager files = compiler.getStandardFileManager(null, null, null);
        JavacTask task = (JavacTask) compiler.getTask(null, files, null, List.of("-proc:none"), null,
                files.getJavaFileObjects(new File("src/main/java/LostLanes.java")));
        unit = task.parse().iterator().next();
        task.analyze();
        trees = Trees.instance(task);
        Looker looker = new Looker();
        looker.scan(unit, null);
        if (looker.classes > 12) {
            no(null, looker.classes + " classes");
        }
        if (!looker.face.equals(FACE)) {
            no(null, "the face is " + looker.face);
        }
        depths();
        System.out.println(looker.classes + " classes, " + CALLS.size() + " methods, " + wrong + " wrong");
        if (wrong != 0) {
            System.exit(1);
        }
    }

    private static final class Looker extends TreePathScanner<Void, Void> {
        int classes;
        final Set<String> face = new TreeSet<>();
        private final Deque<Element> within = new ArrayDeque<>();

        @Override
        public Void scan(Tree tree, Void v) {
            if (tree != null && FORBIDDEN.contains(tree.getKind())) {
                no(tree, tree.getKind() + " (rule 6, 2)");
            }
            return super.scan(tree, v);
        }

        @Override
        public Void visitClass(ClassTree tree, Void v) {
            classes++;
            TypeElement type = (TypeElement) trees.getElement(getCurrentPath());
            boolean outer = type.getQualifiedName().contentEquals("LostLanes");
            if (tree.getSimpleName().length() == 0 || !outer && !type.getModifiers().contains(Modifier.STATIC)) {
                no(tree, "a class that is not static (rule 2)");
            }
            if (!outer && (type.getModifiers().contains(Modifier.PUBLIC) || type.getModifiers().contains(Modifier.PROTECTED))) {
                no(tree, "a class inside that is public (rule 1)");
            }
            int fields = 0;
            for (Element e : type.getEnclosedElements()) {
                member(tree, e, outer);
                if (e.getKind() == ElementKind.FIELD && !e.getModifiers().contains(Modifier.STATIC)) {
                    fields++;
                }
            }
            if (fields > 20) {
                no(tree, fields + " fields (rule 11)");
            }
            return super.visitClass(tree, v);
        }

        private void member(Tree tree, Element e, boolean outer) {
            Set<Modifier> has = e.getModifiers();
            if (outer && e.getKind() != ElementKind.CLASS && !has.contains(Modifier.PRIVATE) && !has.contains(Modifier.PUBLIC)) {
                no(tree, e + " can be seen in the package (rule 1)");
            }
            if (outer && e.getKind() == ElementKind.METHOD && has.contains(Modifier.PUBLIC)) {
                if (!face.add(e.getSimpleName().toString())) {
                    no(tree, e + " stands twice (rule 1)");
                }
            } else if (e.getKind() == ElementKind.METHOD && FACE.contains(e.getSimpleName().toString())) {
                no(tree, e + " bears the name of a public one (rule 1)");
            }
            if (e.getKind() == ElementKind.FIELD && has.contains(Modifier.STATIC)) {
                String type = e.asType().toString();
                if (!has.contains(Modifier.FINAL) || !Set.of("int", "long", "boolean", "char", "java.lang.String", "int[]",
                        "long[]", "char[]", "byte[]").contains(type)) {
                    no(tree, e + " is static and no constant (rule 5)");
                }
            }
            if (e instanceof VariableElement && e.asType().toString().endsWith("[][]")) {
                no(tree, e + " has two dimensions");
            }
        }

        @Override
        public Void visitMethod(MethodTree tree, Void v) {
            long from = line(trees.getSourcePositions().getStartPosition(unit, tree));
            long to = line(trees.getSourcePositions().getEndPosition(unit, tree));
            if (to - from + 1 > 60) {
                no(tree, tree.getName() + " has " + (to - from + 1) + " lines (rule 11)");
            }
            if (tree.getParameters().size() > 7) {
                no(tree, tree.getName() + " takes too many (rule 11)");
            }
            Element e = trees.getElement(getCurrentPath());
            CALLS.put(e, new HashSet<>());
            within.push(e);
            super.visitMethod(tree, v);
            within.pop();
            return null;
        }

        @Override
        public Void visitMethodInvocation(MethodInvocationTree tree, Void v) {
            called(tree, trees.getElement(new TreePath(getCurrentPath(), tree.getMethodSelect())));
            return super.visitMethodInvocation(tree, v);
        }

        @Override
        public Void visitMemberSelect(MemberSelectTree tree, Void v) {
            Element e = trees.getElement(getCurrentPath());
            if (e instanceof VariableElement && e.getEnclosingElement() instanceof TypeElement type
                    && type.getQualifiedName().toString().startsWith("java.")) {
                no(tree, tree + " is not of the library (rule 4)");
            }
            return super.visitMemberSelect(tree, v);
        }

        @Override
        public Void visitNewClass(NewClassTree tree, Void v) {
            called(tree, trees.getElement(getCurrentPath()));
            return super.visitNewClass(tree, v);
        }

        private void called(Tree tree, Element e) {
            String owner = ((TypeElement) e.getEnclosingElement()).getQualifiedName().toString();
            String name = owner + "." + e.getSimpleName();
            if (!owner.startsWith("LostLanes") && !LIBRARY.contains(name)) {
                no(tree, name + " is not of the library (rule 4)");
            }
            if (owner.startsWith("LostLanes") && !within.isEmpty() && e instanceof ExecutableElement) {
                CALLS.get(within.peek()).add(e);
            }
        }

        @Override
        public Void visitWhileLoop(WhileLoopTree tree, Void v) {
            if (!tree.getCondition().toString().contains("<")) {
                no(tree, "a loop without a bound in its line (rule 9)");
            }
            return super.visitWhileLoop(tree, v);
        }

        @Override
        public Void visitForLoop(ForLoopTree tree, Void v) {
            if (tree.getCondition() == null || !tree.getCondition().toString().matches("(?s).*[<>].*")) {
                no(tree, "a loop without a bound in its line (rule 9)");
            }
            return super.visitForLoop(tree, v);
        }
    }

    /** Methods that call one another count as one. */
    private static void depths() {
        Map<Element, Set<Element>> reach = new HashMap<>();
        for (Element e : CALLS.keySet()) {
            Set<Element> all = new HashSet<>();
            List<Element> todo = new ArrayList<>(CALLS.get(e));
            while (!todo.isEmpty()) {
                Element next = todo.remove(todo.size() - 1);
                if (all.add(next)) {
                    todo.addAll(CALLS.getOrDefault(next, Set.of()));
                }
            }
            reach.put(e, all);
        }
        Map<Element, List<String>> known = new HashMap<>();
        for (Element e : CALLS.keySet()) {
            List<String> path = longest(e, reach, known);
            if (path.size() > 8) {
                no(null, "calls " + path.size() + " deep: " + path + " (rule 11)");
            }
        }
    }

    private static List<String> longest(Element e, Map<Element, Set<Element>> reach, Map<Element, List<String>> known) {
        if (known.containsKey(e)) {
            return known.get(e);
        }
        List<String> best = List.of();
        Set<Element> knot = new HashSet<>(Set.of(e));
        for (Element other : reach.get(e)) {
            if (reach.getOrDefault(other, Set.of()).contains(e)) {
                knot.add(other);
            }
        }
        for (Element k : knot) {
            for (Element to : CALLS.getOrDefault(k, Set.of())) {
                if (!knot.contains(to) && CALLS.containsKey(to)) {
                    List<String> path = longest(to, reach, known);
                    best = path.size() > best.size() ? path : best;
                }
            }
        }
        List<String> path = new ArrayList<>(List.of(e.getSimpleName().toString()));
        path.addAll(best);
        known.put(e, path);
        return path;
    }
}
