import com.sun.source.tree.BinaryTree;
import com.sun.source.tree.BlockTree;
import com.sun.source.tree.ClassTree;
import com.sun.source.tree.CompilationUnitTree;
import com.sun.source.tree.ExpressionTree;
import com.sun.source.tree.ForLoopTree;
import com.sun.source.tree.LiteralTree;
import com.sun.source.tree.MethodInvocationTree;
import com.sun.source.tree.MethodTree;
import com.sun.source.tree.NewArrayTree;
import com.sun.source.tree.NewClassTree;
import com.sun.source.tree.ThrowTree;
import com.sun.source.tree.Tree;
import com.sun.source.tree.TypeCastTree;
import com.sun.source.tree.VariableTree;
import com.sun.source.tree.WhileLoopTree;
import com.sun.source.util.JavacTask;
import com.sun.source.util.TreePath;
import com.sun.source.util.TreePathScanner;
import com.sun.source.util.Trees;
import java.io.IOException;
import java.nio.file.Path;
import java.util.ArrayList;
import java.util.HashMap;
import java.util.HashSet;
import java.util.LinkedHashMap;
import java.util.List;
import java.util.Map;
import java.util.Set;
import java.util.TreeSet;
import javax.lang.model.element.Element;
import javax.lang.model.element.ExecutableElement;
import javax.lang.model.element.Modifier;
import javax.tools.JavaCompiler;
import javax.tools.StandardJavaFileManager;
import javax.tools.ToolProvider;

/** The rules of LANGUAGE.md, as far as the program's own text shows them; it runs in the project's folder. */
final class FormTest extends TreePathScanner<Void, Void> {
    private static final Path PROGRAM = Path.of("src/main/java/RecurrenceDesk.java");
    private static final Set<String> FACE = Set.of("change", "type", "wipe", "book", "cancel", "events", "instances",
            "instance", "world", "busy", "stretches", "stretch", "slot");
    private static final Set<String> PLAIN_TYPES = Set.of("int", "long", "char", "boolean", "void", "String");
    private static final Set<String> LIBRARY = Set.of("Math.max", "Math.min", "System.arraycopy", "String.length",
            "String.charAt", "Object.<init>");
    private static final Set<Tree.Kind> FORBIDDEN = Set.of(Tree.Kind.LAMBDA_EXPRESSION, Tree.Kind.MEMBER_REFERENCE,
            Tree.Kind.TRY, Tree.Kind.SYNCHRONIZED, Tree.Kind.ASSERT, Tree.Kind.DOUBLE_LITERAL,
            Tree.Kind.FLOAT_LITERAL, Tree.Kind.INSTANCE_OF, Tree.Kind.ANNOTATION, Tree.Kind.DO_WHILE_LOOP,
            Tree.Kind.PARAMETERIZED_TYPE);

    private final Trees trees;
    private final CompilationUnitTree unit;
    private final Set<String> classes = new HashSet<>();
    private final Map<Element, Set<Element>> calls = new LinkedHashMap<>();
    private final Map<Element, Integer> depths = new HashMap<>();

    private FormTest(Trees trees, CompilationUnitTree unit) {
        this.trees = trees;
        this.unit = unit;
    }

    public static void main(String[] args) throws IOException {
        JavaCompiler compiler = ToolProvider.getSystemJavaCompiler();
        try (StandardJavaFileManager files = compiler.getStandardFileManager(null, null, null)) {
            JavacTask task = (JavacTask) compiler.getTask(null, files, null, List.of("--release", "17", "-proc:none"),
                    null, files.getJavaFileObjects(PROGRAM));
            List<CompilationUnitTree> units = new ArrayList<>();
            task.parse().forEach(units::add);
            task.analyze();
            FormTest test = new FormTest(Trees.instance(task), units.get(0));
            test.wholeFile();
            test.scan(test.unit, null);
            test.callsGoEightDeep();
        }
        Check.finish();
    }

    private void allowed(String what, Tree where, boolean good) {
        Check.equal(PROGRAM + ":" + lineOf(where, false) + ": " + what, true, () -> good);
    }

    private long lineOf(Tree tree, boolean last) {
        long at = last ? trees.getSourcePositions().getEndPosition(unit, tree)
                : trees.getSourcePositions().getStartPosition(unit, tree);
        return unit.getLineMap().getLineNumber(at);
    }

    /** One file without a package, one import, one class on the outside and at most twelve in all. */
    private void wholeFile() {
        Check.equal("no package", null, unit::getPackageName);
        Check.equal("imports", "import java.util.NoSuchElementException;",
                () -> unit.getImports().toString().trim());
        Check.equal("one class on the outside", 1, () -> unit.getTypeDecls().size());
        ClassTree outer = (ClassTree) unit.getTypeDecls().get(0);
        classes.add(outer.getSimpleName().toString());
        for (Tree member : outer.getMembers()) {
            if (member instanceof ClassTree inner) {
                classes.add(inner.getSimpleName().toString());
            }
        }
        Check.equal("rule 11: at most twelve classes", true, () -> classes.size() <= 12);
    }

    @Override
    public Void scan(Tree tree, Void nothing) {
        if (tree != null) {
            allowed("no " + tree.getKind(), tree, !FORBIDDEN.contains(tree.getKind()));
        }
        return super.scan(tree, nothing);
    }

    @Override
    public Void visitClass(ClassTree tree, Void nothing) {
        int fields = 0;
        for (Tree member : tree.getMembers()) {
            allowed("rule 5: no initialiser block", member, !(member instanceof BlockTree));
            if (member instanceof VariableTree field && !isStatic(field)) {
                fields++;
            }
        }
        allowed("rule 11: some twenty fields at most", tree, fields <= 20);
        if (tree != unit.getTypeDecls().get(0)) {
            Set<Modifier> modifiers = tree.getModifiers().getFlags();
            allowed("rule 2: a class, known by its name", tree, classes.contains(tree.getSimpleName().toString()));
            allowed("rule 1: a class inside is private and static", tree,
                    modifiers.containsAll(Set.of(Modifier.PRIVATE, Modifier.STATIC)));
        }
        return super.visitClass(tree, nothing);
    }

    private static boolean isStatic(VariableTree field) {
        return field.getModifiers().getFlags().contains(Modifier.STATIC);
    }

    @Override
    public Void visitVariable(VariableTree tree, Void nothing) {
        allowed("rule 3: a type that is allowed", tree, isAllowedType(tree.getType().toString()));
        if (isStatic(tree)) {
            allowed("rule 5: a static field is final", tree,
                    tree.getModifiers().getFlags().contains(Modifier.FINAL) && tree.getInitializer() != null);
            allowed("rule 5: a static array is written out", tree, !tree.getType().toString().endsWith("[]")
                    || tree.getInitializer() instanceof NewArrayTree row && row.getInitializers() != null);
        }
        return super.visitVariable(tree, nothing);
    }

    private boolean isAllowedType(String type) {
        String plain = type.replace("[]", "");
        return (type.length() - plain.length() <= 2) && (PLAIN_TYPES.contains(plain) || classes.contains(plain));
    }

    @Override
    public Void visitMethod(MethodTree tree, Void nothing) {
        calls.put(trees.getElement(getCurrentPath()), new HashSet<>());
        Set<Modifier> modifiers = tree.getModifiers().getFlags();
        boolean inFace = modifiers.contains(Modifier.PUBLIC);
        boolean constructor = tree.getReturnType() == null;
        boolean outer = getCurrentPath().getParentPath().getLeaf() == unit.getTypeDecls().get(0);
        allowed("rule 1: the face alone is public", tree,
                inFace == (outer && (constructor || FACE.contains(tree.getName().toString()))));
        allowed("rule 1: all else of the outer class is private", tree,
                !outer || inFace || modifiers.contains(Modifier.PRIVATE));
        allowed("rule 1: no other method bears a public one's name", tree,
                inFace || !FACE.contains(tree.getName().toString()));
        allowed("rule 6: no methods of every object", tree,
                !Set.of("equals", "hashCode", "toString").contains(tree.getName().toString()));
        allowed("rule 11: at most seven parameters", tree, tree.getParameters().size() <= 7);
        allowed("rule 11: some sixty lines at most", tree, lineOf(tree, true) - lineOf(tree, false) < 60);
        allowed("rule 3: an answer that is allowed", tree,
                constructor || isAllowedType(tree.getReturnType().toString()));
        return super.visitMethod(tree, nothing);
    }

    @Override
    public Void visitMethodInvocation(MethodInvocationTree tree, Void nothing) {
        ExecutableElement called = (ExecutableElement) trees.getElement(getCurrentPath());
        String owner = called.getEnclosingElement().getSimpleName().toString();
        if (!classes.contains(owner)) {
            String name = owner + "." + called.getSimpleName();
            allowed("rule 4: a call of the library that is allowed, not " + name, tree, LIBRARY.contains(name));
        } else if (enclosing(MethodTree.class) != null) {
            calls.get(trees.getElement(enclosing(MethodTree.class))).add(called);
        }
        return super.visitMethodInvocation(tree, nothing);
    }

    private TreePath enclosing(Class<? extends Tree> kind) {
        TreePath path = getCurrentPath();
        while (path != null && !kind.isInstance(path.getLeaf())) {
            path = path.getParentPath();
        }
        return path;
    }

    @Override
    public Void visitThrow(ThrowTree tree, Void nothing) {
        boolean written = tree.getExpression() instanceof NewClassTree made && isWrittenException(made);
        allowed("rule 6: throw new E(\"a written text\")", tree, written);
        MethodTree method = (MethodTree) enclosing(MethodTree.class).getLeaf();
        String kinds = method.getThrows().toString();
        allowed("rule 6: thrown by the face, which declares it", tree,
                tree.getExpression() instanceof NewClassTree made && kinds.contains(made.getIdentifier().toString()));
        return super.visitThrow(tree, nothing);
    }

    private static boolean isWrittenException(NewClassTree made) {
        return Set.of("IllegalArgumentException", "IllegalStateException", "NoSuchElementException")
                .contains(made.getIdentifier().toString())
                && made.getArguments().stream().allMatch(text -> text.getKind() == Tree.Kind.STRING_LITERAL);
    }

    @Override
    public Void visitNewClass(NewClassTree tree, Void nothing) {
        boolean thrown = getCurrentPath().getParentPath().getLeaf().getKind() == Tree.Kind.THROW;
        allowed("rule 2: no class without a name", tree, tree.getClassBody() == null);
        allowed("rule 12: objects are made once, or thrown", tree, thrown || isMadeOnce());
        return super.visitNewClass(tree, nothing);
    }

    @Override
    public Void visitNewArray(NewArrayTree tree, Void nothing) {
        allowed("rule 3: arrays of one dimension", tree, tree.getDimensions().size() <= 1);
        allowed("rule 12: rows are made once", tree, isMadeOnce());
        return super.visitNewArray(tree, nothing);
    }

    /** By a constructor or by the value that a field begins with. */
    private boolean isMadeOnce() {
        TreePath method = enclosing(MethodTree.class);
        return method == null || ((MethodTree) method.getLeaf()).getReturnType() == null;
    }

    @Override
    public Void visitBinary(BinaryTree tree, Void nothing) {
        String type = String.valueOf(trees.getTypeMirror(getCurrentPath()));
        allowed("rule 10: texts are not joined by +", tree,
                tree.getKind() != Tree.Kind.PLUS || !type.equals("java.lang.String"));
        if (tree.getKind() == Tree.Kind.DIVIDE || tree.getKind() == Tree.Kind.REMAINDER) {
            allowed("rule 7: a divisor that is written", tree, isWrittenNumber(tree.getRightOperand()));
        }
        return super.visitBinary(tree, nothing);
    }

    private static boolean isWrittenNumber(ExpressionTree divisor) {
        return divisor instanceof LiteralTree number && !number.getValue().equals(0)
                || Set.of("MINUTES_OF_A_DAY", "Date.MONTHS").contains(divisor.toString());
    }

    @Override
    public Void visitTypeCast(TypeCastTree tree, Void nothing) {
        allowed("rule 6: numbers alone are cast", tree,
                Set.of("int", "long", "char").contains(tree.getType().toString()));
        return super.visitTypeCast(tree, nothing);
    }

    @Override
    public Void visitForLoop(ForLoopTree tree, Void nothing) {
        allowed("rule 9: a loop with an end", tree, isBound(tree.getCondition()));
        return super.visitForLoop(tree, nothing);
    }

    @Override
    public Void visitWhileLoop(WhileLoopTree tree, Void nothing) {
        allowed("rule 9: a loop with an end", tree, isBound(tree.getCondition()));
        return super.visitWhileLoop(tree, nothing);
    }

    /** A comparison of a counter stands in it. */
    private static boolean isBound(ExpressionTree condition) {
        return condition != null && condition.toString().matches(".*(<|>).*");
    }

    /** Rules 8 and 11: nothing calls itself, and calls go at most eight deep. */
    private void callsGoEightDeep() {
        Set<String> tooDeep = new TreeSet<>();
        for (Element method : calls.keySet()) {
            if (depthOf(method, new HashSet<>()) > 8) {
                tooDeep.add(method.getEnclosingElement().getSimpleName() + "." + method.getSimpleName());
            }
        }
        Check.equal("rules 8 and 11: calls go at most eight deep", "[]", () -> tooDeep);
        Check.equal("the calls were seen", true, () -> calls.size() > FACE.size() && depths.containsValue(3));
    }

    private int depthOf(Element method, Set<Element> open) {
        if (depths.containsKey(method)) {
            return depths.get(method);
        }
        if (!open.add(method)) {
            return 100;
        }
        int deepest = 0;
        for (Element called : calls.getOrDefault(method, Set.of())) {
            deepest = Math.max(deepest, depthOf(called, open));
        }
        open.remove(method);
        depths.put(method, deepest + 1);
        return deepest + 1;
    }
}
