import com.sun.source.tree.ArrayAccessTree;
import com.sun.source.tree.AssignmentTree;
import com.sun.source.tree.BinaryTree;
import com.sun.source.tree.BlockTree;
import com.sun.source.tree.ClassTree;
import com.sun.source.tree.CompilationUnitTree;
import com.sun.source.tree.CompoundAssignmentTree;
import com.sun.source.tree.ExpressionStatementTree;
import com.sun.source.tree.ForLoopTree;
import com.sun.source.tree.IdentifierTree;
import com.sun.source.tree.MethodInvocationTree;
import com.sun.source.tree.MethodTree;
import com.sun.source.tree.NewArrayTree;
import com.sun.source.tree.NewClassTree;
import com.sun.source.tree.Tree;
import com.sun.source.tree.UnaryTree;
import com.sun.source.tree.VariableTree;
import com.sun.source.util.JavacTask;
import com.sun.source.util.SourcePositions;
import com.sun.source.util.TreePath;
import com.sun.source.util.TreePathScanner;
import com.sun.source.util.Trees;
import java.nio.file.Files;
import java.nio.file.Path;
import java.util.HashMap;
import java.util.HashSet;
import java.util.List;
import java.util.Map;
import java.util.Set;
import java.util.TreeSet;
import javax.lang.model.element.Element;
import javax.lang.model.element.Modifier;
import javax.lang.model.element.TypeElement;
import javax.lang.model.type.TypeMirror;
import javax.tools.JavaCompiler;
import javax.tools.StandardJavaFileManager;
import javax.tools.ToolProvider;

/** The rules of LANGUAGE.md, as far as the class's text can show them; each is told by its number. */
public final class RulesTest extends TreePathScanner<Void, Void> {
    private static final Set<String> LIBRARY = Set.of("java.util.Arrays.fill", "java.lang.System.arraycopy",
            "java.lang.Integer.bitCount", "java.lang.Math.floorMod");
    private static final Set<String> TYPES = Set.of("int", "long", "boolean", "int[]", "void");
    /** None of these is in the class, though the rules would bear some of them. */
    private static final Set<Tree.Kind> LEFT_OUT = Set.of(Tree.Kind.LAMBDA_EXPRESSION, Tree.Kind.MEMBER_REFERENCE,
            Tree.Kind.THROW, Tree.Kind.TRY, Tree.Kind.CATCH, Tree.Kind.SYNCHRONIZED, Tree.Kind.ASSERT,
            Tree.Kind.INSTANCE_OF, Tree.Kind.WHILE_LOOP, Tree.Kind.DO_WHILE_LOOP, Tree.Kind.ENHANCED_FOR_LOOP,
            Tree.Kind.PACKAGE, Tree.Kind.ANNOTATION, Tree.Kind.DOUBLE_LITERAL, Tree.Kind.FLOAT_LITERAL,
            Tree.Kind.STRING_LITERAL, Tree.Kind.NULL_LITERAL);
    private static final int MOST_LINES = 60, MOST_DEEP = 8, MOST_CLASSES = 12, MOST_FIELDS = 20, MOST_PARAMETERS = 7;

    private final Trees trees;
    private final SourcePositions positions;
    private final CompilationUnitTree unit;
    private final Map<Element, Set<Element>> calls = new HashMap<>();
    private final Set<String> faceNames = new TreeSet<>();
    private Element method = null;
    private int classes = 0;

    private RulesTest(Trees trees, CompilationUnitTree unit) {
        this.trees = trees;
        this.positions = trees.getSourcePositions();
        this.unit = unit;
    }

    public static void main(String[] args) throws Exception {
        Path source = Path.of(args[0]);
        Due.holds("there is a tab or a sign above 126",
                Files.readString(source).chars().allMatch(c -> c == '\n' || c >= 32 && c <= 126));
        JavaCompiler compiler = ToolProvider.getSystemJavaCompiler();
        try (StandardJavaFileManager files = compiler.getStandardFileManager(null, null, null)) {
            JavacTask task = (JavacTask) compiler.getTask(null, files, null, List.of("--release", "17", "-proc:none"),
                    null, files.getJavaFileObjects(source));
            CompilationUnitTree unit = task.parse().iterator().next();
            task.analyze();
            RulesTest rules = new RulesTest(Trees.instance(task), unit);
            rules.whole();
        }
        Due.end();
    }

    private void whole() {
        Due.is("one class in the file", unit.getTypeDecls().size(), 1);
        Due.is("imports", unit.getImports().size(), 1);
        scan(unit, null);
        Due.holds("11 there are " + classes + " classes", classes <= MOST_CLASSES);
        for (Element m : calls.keySet()) {
            int deep = depth(m, new HashSet<>());
            Due.holds("11 " + m + " goes " + deep + " deep", deep <= MOST_DEEP);
        }
    }

    /** How many calls stand open at once at most, this one and the library's among them. */
    private int depth(Element m, Set<Element> open) {
        if (!open.add(m)) {
            Due.holds("8 " + m + " calls itself, with no guard that this test knows", false);
            return 0;
        }
        int deepest = 0;
        for (Element called : calls.getOrDefault(m, Set.of())) {
            deepest = Math.max(deepest, depth(called, open));
        }
        open.remove(m);
        return deepest + 1;
    }

    private String at(Tree tree) {
        return "line " + unit.getLineMap().getLineNumber(positions.getStartPosition(unit, tree));
    }

    private Element elementOf(Tree tree) {
        return trees.getElement(new TreePath(getCurrentPath(), tree));
    }

    private boolean isOwn(Element element) {
        Element e = element;
        while (e.getEnclosingElement() instanceof TypeElement outer) {
            e = outer;
        }
        return e.getSimpleName().contentEquals("LeftProfile");
    }

    @Override
    public Void scan(Tree tree, Void nothing) {
        if (tree != null) {
            Due.holds(tree.getKind() + " at " + at(tree), !LEFT_OUT.contains(tree.getKind()));
        }
        return super.scan(tree, nothing);
    }

    @Override
    public Void visitClass(ClassTree tree, Void nothing) {
        classes++;
        boolean isFace = tree.getSimpleName().contentEquals("LeftProfile");
        Set<Modifier> modifiers = tree.getModifiers().getFlags();
        Due.holds("1 " + tree.getSimpleName() + " is not as it has to be seen", isFace
                ? modifiers.equals(Set.of(Modifier.PUBLIC, Modifier.FINAL))
                : modifiers.contains(Modifier.STATIC) && modifiers.contains(Modifier.PRIVATE));
        Due.holds("2 a class in a method at " + at(tree), method == null);
        int fields = 0;
        for (Tree member : tree.getMembers()) {
            if (member instanceof VariableTree field) {
                fields += field.getModifiers().getFlags().contains(Modifier.STATIC) ? 0 : 1;
                fieldIsFine(field);
            }
            if (isFace && member instanceof MethodTree m && isPublic(m) && m.getReturnType() != null) {
                faceNames.add(m.getName().toString());
            }
            Due.holds("5 a block that is no method at " + at(member), !(member instanceof BlockTree));
        }
        Due.holds("11 " + tree.getSimpleName() + " has " + fields + " fields", fields <= MOST_FIELDS);
        return super.visitClass(tree, nothing);
    }

    private static boolean isPublic(MethodTree tree) {
        return tree.getModifiers().getFlags().contains(Modifier.PUBLIC);
    }

    private void fieldIsFine(VariableTree field) {
        Set<Modifier> modifiers = field.getModifiers().getFlags();
        if (modifiers.contains(Modifier.STATIC)) {
            Due.holds("5 " + field.getName() + " is static and not final", modifiers.contains(Modifier.FINAL));
            boolean isRow = field.getInitializer() instanceof NewArrayTree row && row.getInitializers() != null;
            Due.holds("5 " + field.getName() + " is no constant",
                    field.getType().toString().equals("int") || field.getType().toString().equals("int[]") && isRow);
        }
    }

    @Override
    public Void visitMethod(MethodTree tree, Void nothing) {
        String name = tree.getName().toString();
        method = trees.getElement(getCurrentPath());
        calls.putIfAbsent(method, new HashSet<>());
        Due.holds("1 " + name + " bears a name of the face", isPublic(tree) || !faceNames.contains(name));
        Due.holds("11 " + name + " takes too many", tree.getParameters().size() <= MOST_PARAMETERS);
        long first = unit.getLineMap().getLineNumber(positions.getStartPosition(unit, tree));
        long end = positions.getEndPosition(unit, tree);
        long last = end < 0 ? first : unit.getLineMap().getLineNumber(end);
        Due.holds("11 " + name + " has " + (last - first + 1) + " lines", last - first < MOST_LINES);
        if (tree.getReturnType() != null) {
            typeIsFine(tree.getReturnType().toString(), tree);
        }
        super.visitMethod(tree, nothing);
        method = null;
        return null;
    }

    @Override
    public Void visitVariable(VariableTree tree, Void nothing) {
        typeIsFine(tree.getType().toString(), tree);
        return super.visitVariable(tree, nothing);
    }

    private void typeIsFine(String type, Tree tree) {
        boolean isOwnClass = Set.of("Page", "Hall", "Court", "Sight", "Scene", "Route").contains(type);
        Due.holds("3 the type " + type + " at " + at(tree), TYPES.contains(type) || isOwnClass);
    }

    @Override
    public Void visitMethodInvocation(MethodInvocationTree tree, Void nothing) {
        Element called = elementOf(tree.getMethodSelect());
        String name = called.getEnclosingElement() + "." + called.getSimpleName();
        Due.holds("4 " + name + " at " + at(tree),
                isOwn(called) || LIBRARY.contains(name) || name.equals("java.lang.Object.<init>"));
        noteCall(called);
        return super.visitMethodInvocation(tree, nothing);
    }

    @Override
    public Void visitNewClass(NewClassTree tree, Void nothing) {
        Element made = trees.getElement(getCurrentPath());
        Due.holds("2 a class without a name at " + at(tree), tree.getClassBody() == null);
        Due.holds("4 " + made + " is made at " + at(tree), isOwn(made));
        onlyWithTheObject("an object", tree);
        noteCall(made);
        return super.visitNewClass(tree, nothing);
    }

    @Override
    public Void visitNewArray(NewArrayTree tree, Void nothing) {
        onlyWithTheObject("an array", tree);
        return super.visitNewArray(tree, nothing);
    }

    /** All that an object needs is made with it, so that the room of a run holds any number of calls. */
    private void onlyWithTheObject(String what, Tree tree) {
        Due.holds("12 a call makes " + what + " at " + at(tree), method == null);
    }

    private void noteCall(Element called) {
        if (method != null) {
            calls.get(method).add(called);
        }
    }

    @Override
    public Void visitForLoop(ForLoopTree tree, Void nothing) {
        boolean bounded = tree.getCondition() != null && tree.getCondition().toString().matches(".* <=? .*");
        String counter = tree.getUpdate().size() == 1 ? counterOf(tree.getUpdate().get(0)) : "";
        Due.holds("9 a loop without an end to be seen at " + at(tree), bounded && !counter.isEmpty());
        new CounterStays(counter).scan(new TreePath(getCurrentPath(), tree.getStatement()), null);
        return super.visitForLoop(tree, nothing);
    }

    private static String counterOf(ExpressionStatementTree update) {
        boolean rises = update.getExpression().getKind() == Tree.Kind.POSTFIX_INCREMENT;
        return rises ? ((UnaryTree) update.getExpression()).getExpression().toString() : "";
    }

    @Override
    public Void visitBinary(BinaryTree tree, Void nothing) {
        TypeMirror type = trees.getTypeMirror(getCurrentPath());
        Due.holds("10 a " + type + " at " + at(tree), TYPES.contains(String.valueOf(type)));
        if (tree.getKind() == Tree.Kind.DIVIDE || tree.getKind() == Tree.Kind.REMAINDER) {
            boolean isConstant = tree.getRightOperand().toString().matches("[A-Z_]+|[1-9]\\d*L?");
            Due.holds("7 a divisor that is no constant at " + at(tree), isConstant);
        }
        return super.visitBinary(tree, nothing);
    }

    @Override
    public Void visitArrayAccess(ArrayAccessTree tree, Void nothing) {
        Element row = elementOf(tree.getExpression());
        Due.holds("7 a row that might be another one at " + at(tree),
                row != null && row.getModifiers().contains(Modifier.FINAL));
        return super.visitArrayAccess(tree, nothing);
    }

    /** The body of a counting loop leaves its counter alone. */
    private final class CounterStays extends TreePathScanner<Void, Void> {
        private final String counter;

        CounterStays(String counter) {
            this.counter = counter;
        }

        private void leaves(Tree changed) {
            boolean isCounter = changed instanceof IdentifierTree && changed.toString().equals(counter);
            Due.holds("9 the counter is changed at " + at(changed), !isCounter);
        }

        @Override
        public Void visitAssignment(AssignmentTree tree, Void nothing) {
            leaves(tree.getVariable());
            return super.visitAssignment(tree, nothing);
        }

        @Override
        public Void visitCompoundAssignment(CompoundAssignmentTree tree, Void nothing) {
            leaves(tree.getVariable());
            return super.visitCompoundAssignment(tree, nothing);
        }

        @Override
        public Void visitUnary(UnaryTree tree, Void nothing) {
            if (tree.getKind().toString().matches(".*(INCREMENT|DECREMENT)")) {
                leaves(tree.getExpression());
            }
            return super.visitUnary(tree, nothing);
        }
    }
}
