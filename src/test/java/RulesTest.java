import com.sun.source.tree.ArrayAccessTree;
import com.sun.source.tree.AssignmentTree;
import com.sun.source.tree.BinaryTree;
import com.sun.source.tree.ClassTree;
import com.sun.source.tree.CompilationUnitTree;
import com.sun.source.tree.CompoundAssignmentTree;
import com.sun.source.tree.ForLoopTree;
import com.sun.source.tree.InstanceOfTree;
import com.sun.source.tree.LambdaExpressionTree;
import com.sun.source.tree.MemberReferenceTree;
import com.sun.source.tree.MethodInvocationTree;
import com.sun.source.tree.MethodTree;
import com.sun.source.tree.NewClassTree;
import com.sun.source.tree.ThrowTree;
import com.sun.source.tree.Tree;
import com.sun.source.tree.TryTree;
import com.sun.source.tree.TypeCastTree;
import com.sun.source.tree.UnaryTree;
import com.sun.source.tree.VariableTree;
import com.sun.source.util.JavacTask;
import com.sun.source.util.TreePath;
import com.sun.source.util.TreePathScanner;
import com.sun.source.util.Trees;
import java.io.IOException;
import java.util.ArrayList;
import java.util.HashSet;
import java.util.LinkedHashMap;
import java.util.LinkedHashSet;
import java.util.List;
import java.util.Map;
import java.util.Set;
import java.util.TreeSet;
import javax.lang.model.element.Element;
import javax.lang.model.element.ElementKind;
import javax.lang.model.element.ExecutableElement;
import javax.lang.model.element.Modifier;
import javax.lang.model.element.TypeElement;
import javax.lang.model.type.ArrayType;
import javax.lang.model.type.DeclaredType;
import javax.lang.model.type.TypeKind;
import javax.lang.model.type.TypeMirror;
import javax.tools.JavaCompiler;
import javax.tools.StandardJavaFileManager;
import javax.tools.ToolProvider;

/** Those rules of LANGUAGE.md that need the program as the compiler understands it: types, what calls what, what throws. */
public final class RulesTest {
    private static final Set<String> LISTED = Set.of("add", "get", "set", "remove", "size", "isEmpty", "clear", "of", "iterator");
    /** What may be called on each type of the library that a variable may be of. */
    private static final Map<String, Set<String>> TYPES = Map.of(
            "java.lang.String", Set.of("length", "charAt", "isEmpty", "equals", "indexOf", "substring", "toCharArray"),
            "java.lang.StringBuilder", Set.of("append", "charAt", "setCharAt", "setLength", "deleteCharAt", "reverse", "length", "toString"),
            "java.util.ArrayList", LISTED, "java.util.List", LISTED, "java.lang.Integer", Set.of(),
            "java.util.Iterator", Set.of("hasNext", "next"), "java.lang.Iterable", Set.of("iterator"),
            "java.lang.Comparable", Set.of("compareTo"));
    private static final Set<String> NUMBERS = Set.of("java.lang.Integer", "java.lang.Long", "java.lang.Math");
    private static final Set<String> ARRAYS = Set.of("copyOf", "copyOfRange", "fill");
    private static final int MOST_DEEP = 8;

    /** A method or constructor of the class or of one inside it. */
    private static final class Way {
        final String name;
        final boolean constructor;
        final boolean guarded;
        final Set<Way> calls = new LinkedHashSet<>();
        boolean throwsItself;
        boolean tries;

        Way(String name, MethodTree tree, ExecutableElement element) {
            this.name = name;
            constructor = element.getKind() == ElementKind.CONSTRUCTOR;
            boolean depth = tree.getParameters().stream().anyMatch(p -> p.getName().contentEquals("depth"));
            guarded = depth && element.getModifiers().contains(Modifier.PRIVATE);
        }
    }

    private static final Map<Element, Way> WAYS = new LinkedHashMap<>();
    private static final List<String> TYPES_LEFT_OUT = new ArrayList<>();
    private static final List<String> CALLS_LEFT_OUT = new ArrayList<>();
    private static final List<String> FORMS_LEFT_OUT = new ArrayList<>();

    public static void main(String[] args) throws IOException {
        read(System.getProperty("main.source", "src/main/java/QuestionDesk.java"));
        Checks.test("rule 3: types", () -> Checks.holds("" + TYPES_LEFT_OUT, TYPES_LEFT_OUT.isEmpty()));
        Checks.test("rule 4: calls of the library", () -> Checks.holds("" + CALLS_LEFT_OUT, CALLS_LEFT_OUT.isEmpty()));
        Checks.test("rules 2, 5, 6, 9, 10: forms that are left out", () -> Checks.holds("" + FORMS_LEFT_OUT, FORMS_LEFT_OUT.isEmpty()));
        Checks.test("rule 6: no method that throws also tries, no constructor throws", RulesTest::throwing);
        Checks.test("rule 8: those that call one another are private and carry the depth", RulesTest::recursion);
        Checks.test("rule 11: calls go at most eight deep", RulesTest::depth);
        Checks.end();
    }

    private static void read(String file) throws IOException {
        JavaCompiler compiler = ToolProvider.getSystemJavaCompiler();
        try (StandardJavaFileManager files = compiler.getStandardFileManager(null, null, null)) {
            JavacTask task = (JavacTask) compiler.getTask(null, files, null, List.of("-proc:none"), null, files.getJavaFileObjects(file));
            Iterable<? extends CompilationUnitTree> units = task.parse();
            task.analyze();
            Trees trees = Trees.instance(task);
            for (CompilationUnitTree unit : units) {
                new Finder(trees).scan(unit, null);
                new Reader(trees).scan(unit, null);
            }
        }
        Checks.holds("the program was read", WAYS.size() > 46);
    }

    private static boolean isOwn(Element e) {
        return e.toString().startsWith("QuestionDesk");
    }

    private static boolean isText(TypeMirror type) {
        return type != null && type.toString().equals("java.lang.String");
    }

    /** Finds all methods ahead of what they call. */
    private static final class Finder extends TreePathScanner<Void, Void> {
        private final Trees trees;

        Finder(Trees trees) {
            this.trees = trees;
        }

        @Override
        public Void visitMethod(MethodTree tree, Void none) {
            ExecutableElement element = (ExecutableElement) trees.getElement(getCurrentPath());
            WAYS.put(element, new Way(element.getEnclosingElement().getSimpleName() + "." + element, tree, element));
            return super.visitMethod(tree, none);
        }
    }

    private static final class Reader extends TreePathScanner<Void, Void> {
        private final Trees trees;

        Reader(Trees trees) {
            this.trees = trees;
        }

        private TypeMirror typeOf(Tree tree) {
            return trees.getTypeMirror(new TreePath(getCurrentPath(), tree));
        }

        /** The method around; what a field begins with belongs to its class's constructors. */
        private List<Way> around() {
            for (TreePath path = getCurrentPath(); path != null; path = path.getParentPath()) {
                if (path.getLeaf() instanceof MethodTree) {
                    return List.of(WAYS.get(trees.getElement(path)));
                }
                if (path.getLeaf() instanceof ClassTree) {
                    List<Way> made = new ArrayList<>();
                    for (Element e : trees.getElement(path).getEnclosedElements()) {
                        if (WAYS.containsKey(e) && WAYS.get(e).constructor) {
                            made.add(WAYS.get(e));
                        }
                    }
                    return made;
                }
            }
            return List.of();
        }

        private void called(Element element, Tree tree) {
            if (WAYS.containsKey(element)) {
                around().forEach(way -> way.calls.add(WAYS.get(element)));
            } else if (!isOwn(element.getEnclosingElement()) && !mayBeCalled((ExecutableElement) element)) {
                CALLS_LEFT_OUT.add(tree.toString());
            }
        }

        private boolean mayBeCalled(ExecutableElement call) {
            String owner = ((TypeElement) call.getEnclosingElement()).getQualifiedName().toString();
            String name = call.getSimpleName().toString();
            if (name.equals("<init>")) {
                return !NUMBERS.contains(owner) && !owner.equals("java.lang.Throwable");
            }
            boolean numbers = NUMBERS.contains(owner) && call.getModifiers().contains(Modifier.STATIC) && !name.endsWith("Exact");
            boolean rows = owner.equals("java.util.Arrays") && ARRAYS.contains(name) || owner.equals("Array") && name.equals("clone");
            return numbers || rows || owner.equals("java.lang.System") && name.equals("arraycopy")
                    || TYPES.getOrDefault(owner, Set.of()).contains(name);
        }

        @Override
        public Void visitMethodInvocation(MethodInvocationTree tree, Void none) {
            called(trees.getElement(getCurrentPath()), tree);
            return super.visitMethodInvocation(tree, none);
        }

        @Override
        public Void visitNewClass(NewClassTree tree, Void none) {
            called(trees.getElement(getCurrentPath()), tree);
            return super.visitNewClass(tree, none);
        }

        @Override
        public Void visitVariable(VariableTree tree, Void none) {
            boolean caught = getCurrentPath().getParentPath().getLeaf().getKind() == Tree.Kind.CATCH;
            if (!caught && !mayBe(typeOf(tree))) {
                TYPES_LEFT_OUT.add(tree.toString());
            }
            return super.visitVariable(tree, none);
        }

        @Override
        public Void visitMethod(MethodTree tree, Void none) {
            if (tree.getReturnType() != null && !mayBe(typeOf(tree.getReturnType()))) {
                TYPES_LEFT_OUT.add(tree.getName() + " answers " + tree.getReturnType());
            }
            return super.visitMethod(tree, none);
        }

        private boolean mayBe(TypeMirror type) {
            if (type.getKind().isPrimitive() || type.getKind() == TypeKind.VOID) {
                return true;
            }
            if (type instanceof ArrayType) {
                TypeMirror part = ((ArrayType) type).getComponentType();
                boolean twice = part instanceof ArrayType;
                TypeMirror last = twice ? ((ArrayType) part).getComponentType() : part;
                return last.getKind().isPrimitive() || !twice && last instanceof DeclaredType && isOwn(((DeclaredType) last).asElement());
            }
            Element named = ((DeclaredType) type).asElement();
            return isOwn(named) || TYPES.containsKey(named.toString());
        }

        @Override
        public Void visitThrow(ThrowTree tree, Void none) {
            around().forEach(way -> way.throwsItself = true);
            return super.visitThrow(tree, none);
        }

        @Override
        public Void visitTry(TryTree tree, Void none) {
            around().forEach(way -> way.tries = true);
            if (tree.getFinallyBlock() != null || !tree.getResources().isEmpty()) {
                FORMS_LEFT_OUT.add(tree.toString());
            }
            return super.visitTry(tree, none);
        }

        @Override
        public Void visitBinary(BinaryTree tree, Void none) {
            boolean text = isText(typeOf(tree.getLeftOperand())) || isText(typeOf(tree.getRightOperand()));
            if (text) {
                FORMS_LEFT_OUT.add(tree.toString());
            }
            return super.visitBinary(tree, none);
        }

        @Override
        public Void visitCompoundAssignment(CompoundAssignmentTree tree, Void none) {
            changed(tree.getVariable());
            if (isText(typeOf(tree.getVariable()))) {
                FORMS_LEFT_OUT.add(tree.toString());
            }
            return super.visitCompoundAssignment(tree, none);
        }

        private void changed(Tree tree) {
            if (tree instanceof ArrayAccessTree) {
                Element row = trees.getElement(new TreePath(getCurrentPath(), ((ArrayAccessTree) tree).getExpression()));
                if (row != null && row.getModifiers().contains(Modifier.STATIC)) {
                    FORMS_LEFT_OUT.add(tree + " is changed");
                }
            }
        }

        @Override
        public Void visitAssignment(AssignmentTree tree, Void none) {
            changed(tree.getVariable());
            return super.visitAssignment(tree, none);
        }

        @Override
        public Void visitUnary(UnaryTree tree, Void none) {
            if (tree.getKind().name().contains("CREMENT")) {
                changed(tree.getExpression());
            }
            return super.visitUnary(tree, none);
        }

        @Override
        public Void visitForLoop(ForLoopTree tree, Void none) {
            if (tree.getCondition() == null || tree.getUpdate().isEmpty()) {
                FORMS_LEFT_OUT.add(tree.toString());
            }
            return super.visitForLoop(tree, none);
        }

        @Override
        public Void visitTypeCast(TypeCastTree tree, Void none) {
            TypeMirror to = typeOf(tree.getType());
            if (!to.getKind().isPrimitive() && !(to instanceof DeclaredType && isOwn(((DeclaredType) to).asElement()))) {
                FORMS_LEFT_OUT.add(tree.toString());
            }
            return super.visitTypeCast(tree, none);
        }

        @Override
        public Void visitInstanceOf(InstanceOfTree tree, Void none) {
            if (!isOwn(((DeclaredType) typeOf(tree.getType())).asElement())) {
                FORMS_LEFT_OUT.add(tree.toString());
            }
            return super.visitInstanceOf(tree, none);
        }

        @Override
        public Void visitLambdaExpression(LambdaExpressionTree tree, Void none) {
            FORMS_LEFT_OUT.add(tree.toString());
            return super.visitLambdaExpression(tree, none);
        }

        @Override
        public Void visitMemberReference(MemberReferenceTree tree, Void none) {
            FORMS_LEFT_OUT.add(tree.toString());
            return super.visitMemberReference(tree, none);
        }
    }

    private static void throwing() {
        for (Way way : WAYS.values()) {
            Checks.holds(way.name + " throws and tries", !(way.throwsItself && way.tries));
            Checks.holds(way.name + " throws, a constructor", !(way.throwsItself && way.constructor));
        }
    }

    private static boolean reaches(Way from, Way to, Set<Way> seen) {
        for (Way next : from.calls) {
            if (next == to || seen.add(next) && reaches(next, to, seen)) {
                return true;
            }
        }
        return false;
    }

    private static boolean callOneAnother(Way a, Way b) {
        return reaches(a, b, new HashSet<>()) && reaches(b, a, new HashSet<>());
    }

    private static void recursion() {
        Set<String> found = new TreeSet<>();
        for (Way way : WAYS.values()) {
            if (callOneAnother(way, way)) {
                found.add(way.name);
                Checks.holds(way.name + " calls itself in the end, without a depth", way.guarded);
            }
        }
        Checks.holds("the reader was seen: " + found, !found.isEmpty());
    }

    private static void depth() {
        Map<Way, Integer> known = new LinkedHashMap<>();
        for (Way way : WAYS.values()) {
            int deep = deepFrom(way, known);
            Checks.holds(way.name + " goes " + deep + " deep", deep <= MOST_DEEP);
        }
    }

    /** How many calls stand open at most, the first one too, where a recursion counts as its single calls. */
    private static int deepFrom(Way way, Map<Way, Integer> known) {
        Integer told = known.get(way);
        if (told != null) {
            return told;
        }
        int most = 0;
        for (Way next : way.calls) {
            if (!callOneAnother(way, next)) {
                most = Math.max(most, deepFrom(next, known));
            }
        }
        known.put(way, most + 1);
        return most + 1;
    }
}
