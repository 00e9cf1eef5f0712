import com.sun.source.tree.BinaryTree;
import com.sun.source.tree.CompilationUnitTree;
import com.sun.source.tree.ForLoopTree;
import com.sun.source.tree.MethodInvocationTree;
import com.sun.source.tree.MethodTree;
import com.sun.source.tree.NewClassTree;
import com.sun.source.tree.TypeCastTree;
import com.sun.source.tree.VariableTree;
import com.sun.source.util.JavacTask;
import com.sun.source.util.TreePathScanner;
import com.sun.source.util.Trees;
import java.nio.file.Path;
import java.util.ArrayList;
import java.util.HashMap;
import java.util.HashSet;
import java.util.LinkedHashMap;
import java.util.LinkedHashSet;
import java.util.List;
import java.util.Map;
import java.util.Set;
import java.util.regex.Pattern;
import javax.lang.model.element.Element;
import javax.lang.model.element.ElementKind;
import javax.lang.model.element.Modifier;
import javax.lang.model.type.ArrayType;
import javax.lang.model.type.TypeKind;
import javax.lang.model.type.TypeMirror;
import javax.tools.JavaCompiler;
import javax.tools.StandardJavaFileManager;
import javax.tools.ToolProvider;

/** What of LANGUAGE.md the compiler's tree of the source shows. */
public final class SourceTest {
    /** Of LANGUAGE.md, 4, what a class without lists and text building may need; more of it is to be added here. */
    private static final Pattern LIBRARY = Pattern.compile("Object\\.Object\\(\\)|System\\.arraycopy\\(.*\\)"
            + "|String\\.(length|charAt|isEmpty|equals|indexOf|substring|toCharArray)\\([^,]*(,int)?\\)"
            + "|(Math|Integer|Long)\\.(?!\\w*Exact)\\w+\\(((int|long),?)*\\)");
    /** LANGUAGE.md, 11: calls that are no recursion. */
    private static final int DEEP_MOST = 8;

    private static final Map<Element, Set<Element>> CALLS = new LinkedHashMap<>();
    private static final Set<String> WRONG = new LinkedHashSet<>();

    public static void main(String[] args) throws Exception {
        JavaCompiler compiler = ToolProvider.getSystemJavaCompiler();
        try (StandardJavaFileManager files = compiler.getStandardFileManager(null, null, null)) {
            JavacTask task = (JavacTask) compiler.getTask(null, files, null, List.of("-proc:none"), null,
                    files.getJavaFileObjects(Path.of(args[0])));
            Iterable<? extends CompilationUnitTree> units = task.parse();
            task.analyze();
            for (CompilationUnitTree unit : units) {
                new Reader(Trees.instance(task)).scan(unit, null);
            }
        }
        List<String> deepest = new ArrayList<>();
        for (Element start : CALLS.keySet()) {
            List<String> way = deepest(start, new HashMap<>());
            deepest = way.size() > deepest.size() ? way : deepest;
        }
        check(!CALLS.isEmpty() && !deepest.isEmpty(), "no methods were seen");
        check(deepest.size() <= DEEP_MOST, "calls go deeper than eight: " + deepest);
        WRONG.forEach(System.out::println);
        System.out.println("SourceTest: " + CALLS.size() + " methods, calls go " + deepest.size() + " deep, "
                + WRONG.size() + " rules broken");
        if (!WRONG.isEmpty()) {
            System.exit(1);
        }
    }

    private static void check(boolean holds, String what) {
        if (!holds) {
            WRONG.add(what);
        }
    }

    /** Everything that can be called from a method, by whatever way. */
    private static Set<Element> reached(Element from) {
        Set<Element> seen = new HashSet<>();
        List<Element> open = new ArrayList<>(CALLS.getOrDefault(from, Set.of()));
        while (!open.isEmpty()) {
            Element next = open.remove(open.size() - 1);
            if (seen.add(next)) {
                open.addAll(CALLS.getOrDefault(next, Set.of()));
            }
        }
        return seen;
    }

    /** The longest way down, in which methods that call one another in a ring stand as one. */
    private static List<String> deepest(Element from, Map<Element, List<String>> known) {
        if (known.containsKey(from)) {
            return known.get(from);
        }
        Set<Element> ring = new LinkedHashSet<>(Set.of(from));
        for (Element other : reached(from)) {
            if (reached(other).contains(from)) {
                ring.add(other);
            }
        }
        List<String> longest = List.of();
        for (Element member : ring) {
            for (Element next : CALLS.getOrDefault(member, Set.of())) {
                if (!ring.contains(next)) {
                    List<String> way = deepest(next, known);
                    longest = way.size() > longest.size() ? way : longest;
                }
            }
        }
        List<String> way = new ArrayList<>(List.of(from.getEnclosingElement().getSimpleName() + "." + from));
        way.addAll(longest);
        for (Element member : ring) {
            known.put(member, way);
        }
        return way;
    }

    /** Goes through the tree, keeps which method calls which, and looks at what is ruled out. */
    private static final class Reader extends TreePathScanner<Void, Void> {
        private final Trees trees;
        private Element method;

        Reader(Trees trees) {
            this.trees = trees;
        }

        private Element element() {
            return trees.getElement(getCurrentPath());
        }

        private boolean isOfSource(Element element) {
            return element != null && trees.getTree(element) != null;
        }

        @Override
        public Void visitMethod(MethodTree tree, Void none) {
            Element around = method;
            method = element();
            CALLS.computeIfAbsent(method, k -> new LinkedHashSet<>());
            check(tree.getParameters().size() <= 7, tree.getName() + " takes more than seven");
            super.visitMethod(tree, none);
            method = around;
            return null;
        }

        @Override
        public Void visitMethodInvocation(MethodInvocationTree tree, Void none) {
            call(element());
            return super.visitMethodInvocation(tree, none);
        }

        @Override
        public Void visitNewClass(NewClassTree tree, Void none) {
            check(tree.getClassBody() == null, "an anonymous class");
            call(element());
            return super.visitNewClass(tree, none);
        }

        private void call(Element called) {
            if (called == null) {
                check(false, "a call of nothing that is known, in " + method);
            } else if (isOfSource(called.getEnclosingElement())) {
                if (method != null) {
                    CALLS.get(method).add(called);
                }
            } else {
                String name = called.getKind() == ElementKind.CONSTRUCTOR ? called.toString()
                        : called.getEnclosingElement().getSimpleName() + "." + called;
                name = name.equals("Object()") ? "Object.Object()" : name;
                check(LIBRARY.matcher(name).matches(), "of the library " + name + ", in " + method);
            }
        }

        @Override
        public Void visitVariable(VariableTree tree, Void none) {
            Element variable = element();
            TypeMirror type = variable.asType();
            boolean isStatic = variable.getModifiers().contains(Modifier.STATIC);
            check(isOneOfOurs(type), "the type " + type + " of " + variable);
            check(!isStatic || variable.getModifiers().contains(Modifier.FINAL), variable + " is static, not final");
            check(!isStatic || isConstant(type), variable + " is a static " + type);
            return super.visitVariable(tree, none);
        }

        /** LANGUAGE.md, 3: what may be held by a variable, as far as the class needs it. */
        private boolean isOneOfOurs(TypeMirror type) {
            if (type.getKind() == TypeKind.ARRAY) {
                TypeMirror part = ((ArrayType) type).getComponentType();
                if (part.getKind() == TypeKind.ARRAY) {
                    return ((ArrayType) part).getComponentType().getKind().isPrimitive();
                }
                return isOneOfOurs(part);
            }
            return type.getKind().isPrimitive() || type.toString().equals("java.lang.String")
                    || type.toString().startsWith("MarbleBath");
        }

        /** LANGUAGE.md, 5. */
        private boolean isConstant(TypeMirror type) {
            return Set.of("int", "long", "boolean", "char", "java.lang.String", "int[]", "long[]", "char[]", "byte[]")
                    .contains(type.toString());
        }

        @Override
        public Void visitBinary(BinaryTree tree, Void none) {
            boolean texts = trees.getTypeMirror(getCurrentPath()).toString().equals("java.lang.String");
            check(!texts, "texts are joined by +: " + tree);
            return super.visitBinary(tree, none);
        }

        @Override
        public Void visitTypeCast(TypeCastTree tree, Void none) {
            check(trees.getTypeMirror(getCurrentPath()).getKind().isPrimitive(), "a cast: " + tree);
            return super.visitTypeCast(tree, none);
        }

        @Override
        public Void visitForLoop(ForLoopTree tree, Void none) {
            check(tree.getCondition() != null, "a for without an end, in " + method);
            return super.visitForLoop(tree, none);
        }
    }
}
