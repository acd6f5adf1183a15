import com.sun.source.tree.AssignmentTree;
import com.sun.source.tree.BinaryTree;
import com.sun.source.tree.BlockTree;
import com.sun.source.tree.ClassTree;
import com.sun.source.tree.CompilationUnitTree;
import com.sun.source.tree.CompoundAssignmentTree;
import com.sun.source.tree.ForLoopTree;
import com.sun.source.tree.MethodInvocationTree;
import com.sun.source.tree.MethodTree;
import com.sun.source.tree.NewArrayTree;
import com.sun.source.tree.NewClassTree;
import com.sun.source.tree.Tree;
import com.sun.source.tree.UnaryTree;
import com.sun.source.tree.VariableTree;
import com.sun.source.util.JavacTask;
import com.sun.source.util.TreePathScanner;
import com.sun.source.util.TreeScanner;
import com.sun.source.util.Trees;
import java.io.IOException;
import java.nio.file.Path;
import java.util.EnumSet;
import java.util.HashMap;
import java.util.HashSet;
import java.util.List;
import java.util.Map;
import java.util.Set;
import java.util.TreeSet;
import javax.lang.model.element.Element;
import javax.lang.model.element.ElementKind;
import javax.lang.model.element.Modifier;
import javax.lang.model.element.VariableElement;
import javax.tools.JavaCompiler;
import javax.tools.StandardJavaFileManager;
import javax.tools.ToolProvider;

/**
 * The rules of LANGUAGE.md, looked for in the tree that the compiler makes of the source. What the class has no
 * need of (casts, texts, lists, loops without a counter ..) is not let through at all, though a rule would.
 */
public final class LanguageTest extends TreePathScanner<Void, Void> {
    private static final Path SOURCE = Path.of("src/main/java/PoolDesk.java");
    private static final Set<Tree.Kind> KINDS = EnumSet.of(
        Tree.Kind.COMPILATION_UNIT, Tree.Kind.CLASS, Tree.Kind.MODIFIERS, Tree.Kind.METHOD, Tree.Kind.VARIABLE,
        Tree.Kind.PRIMITIVE_TYPE, Tree.Kind.ARRAY_TYPE, Tree.Kind.BLOCK, Tree.Kind.EXPRESSION_STATEMENT,
        Tree.Kind.IF, Tree.Kind.FOR_LOOP, Tree.Kind.BREAK, Tree.Kind.CONTINUE, Tree.Kind.RETURN,
        Tree.Kind.SWITCH, Tree.Kind.CASE, Tree.Kind.IDENTIFIER, Tree.Kind.MEMBER_SELECT,
        Tree.Kind.METHOD_INVOCATION, Tree.Kind.ARRAY_ACCESS, Tree.Kind.NEW_CLASS, Tree.Kind.NEW_ARRAY,
        Tree.Kind.PARENTHESIZED, Tree.Kind.CONDITIONAL_EXPRESSION, Tree.Kind.ASSIGNMENT, Tree.Kind.PLUS_ASSIGNMENT,
        Tree.Kind.MINUS_ASSIGNMENT, Tree.Kind.OR_ASSIGNMENT, Tree.Kind.AND_ASSIGNMENT, Tree.Kind.POSTFIX_INCREMENT,
        Tree.Kind.PLUS, Tree.Kind.MINUS, Tree.Kind.MULTIPLY, Tree.Kind.DIVIDE, Tree.Kind.REMAINDER,
        Tree.Kind.LEFT_SHIFT, Tree.Kind.AND, Tree.Kind.OR, Tree.Kind.UNARY_MINUS, Tree.Kind.BITWISE_COMPLEMENT,
        Tree.Kind.LOGICAL_COMPLEMENT, Tree.Kind.CONDITIONAL_AND, Tree.Kind.CONDITIONAL_OR, Tree.Kind.EQUAL_TO,
        Tree.Kind.NOT_EQUAL_TO, Tree.Kind.LESS_THAN, Tree.Kind.LESS_THAN_EQUAL, Tree.Kind.GREATER_THAN,
        Tree.Kind.GREATER_THAN_EQUAL, Tree.Kind.INT_LITERAL, Tree.Kind.LONG_LITERAL, Tree.Kind.BOOLEAN_LITERAL);
    private static final Set<String> PLAIN_TYPES = Set.of("int", "long", "boolean", "int[]", "long[]", "void");
    private static final Set<String> LIBRARY = Set.of("java.lang.Long.bitCount", "java.lang.Long.compare",
        "java.lang.System.arraycopy");
    private static final int MOST_LINES = 60;
    private static final int MOST_PARAMETERS = 7;
    private static final int MOST_CALLS_DEEP = 8;
    private static final int MOST_CLASSES = 12;
    private static final int MOST_FIELDS = 20;

    private final CompilationUnitTree unit;
    private final Trees trees;
    private final Set<String> ownClasses = new HashSet<>();
    private final Set<String> publicMethods = new HashSet<>();
    private final Set<String> privateMethods = new HashSet<>();
    private final Map<Element, Set<Element>> callsOf = new HashMap<>();
    private Element method;

    private LanguageTest(CompilationUnitTree unit, Trees trees) {
        this.unit = unit;
        this.trees = trees;
    }

    public static void main(String[] args) throws IOException {
        JavaCompiler compiler = ToolProvider.getSystemJavaCompiler();
        try (StandardJavaFileManager files = compiler.getStandardFileManager(null, null, null)) {
            JavacTask task = (JavacTask) compiler.getTask(null, files, null, List.of("--release", "17"), null,
                files.getJavaFileObjects(SOURCE));
            CompilationUnitTree unit = task.parse().iterator().next();
            task.analyze();
            new LanguageTest(unit, Trees.instance(task)).check();
        }
        Due.end();
    }

    private void check() {
        Due.is("classes beside PoolDesk in the file", unit.getTypeDecls().size(), 1);
        findOwnClasses(unit.getTypeDecls().get(0));
        Due.is("at most twelve classes (rule 11)", ownClasses.size() <= MOST_CLASSES, true);
        scan(unit, null);
        Set<String> both = new TreeSet<>(privateMethods);
        both.retainAll(publicMethods);
        Due.is("private methods that bear a public one's name (rule 1) " + both, both.size(), 0);
        for (Element one : callsOf.keySet()) {
            Due.is("calls at most eight deep, none of them a recursion (rule 11): " + one,
                depth(one, MOST_CALLS_DEEP) <= MOST_CALLS_DEEP, true);
        }
    }

    private void findOwnClasses(Tree tree) {
        ClassTree type = (ClassTree) tree;
        ownClasses.add(type.getSimpleName().toString());
        for (Tree member : type.getMembers()) {
            if (member instanceof ClassTree) {
                findOwnClasses(member);
            }
        }
    }

    /** How many calls stand open at once below a method; more than so many if there is no end. */
    private int depth(Element one, int most) {
        int deepest = 0;
        if (most >= 0) {
            for (Element called : callsOf.getOrDefault(one, Set.of())) {
                deepest = Math.max(deepest, 1 + depth(called, most - 1));
            }
        }
        return deepest;
    }

    private void rule(int number, String what, Tree where, boolean kept) {
        if (!kept) {
            long at = trees.getSourcePositions().getStartPosition(unit, where);
            Due.is("rule " + number + ", line " + unit.getLineMap().getLineNumber(at) + ": " + what, kept, true);
        }
    }

    private Element element() {
        return trees.getElement(getCurrentPath());
    }

    @Override
    public Void scan(Tree tree, Void none) {
        if (tree != null) {
            rule(10, tree.getKind() + " is not among what the class needs", tree, KINDS.contains(tree.getKind()));
        }
        return super.scan(tree, none);
    }

    @Override
    public Void visitClass(ClassTree type, Void none) {
        Set<Modifier> flags = type.getModifiers().getFlags();
        boolean outer = type.getSimpleName().contentEquals("PoolDesk");
        Set<Modifier> due = outer ? Set.of(Modifier.PUBLIC, Modifier.FINAL)
            : Set.of(Modifier.PRIVATE, Modifier.STATIC, Modifier.FINAL);
        rule(2, "flags of class " + type.getSimpleName(), type, flags.equals(due));
        rule(6, "a class above " + type.getSimpleName(), type,
            type.getExtendsClause() == null && type.getImplementsClause().isEmpty());
        rule(2, "a class in a method", type, method == null);
        int fields = 0;
        for (Tree member : type.getMembers()) {
            rule(5, "a block outside of methods", member, !(member instanceof BlockTree));
            if (member instanceof VariableTree field
                && !field.getModifiers().getFlags().contains(Modifier.STATIC)) {
                fields++;
            }
        }
        rule(11, "fields of class " + type.getSimpleName(), type, fields <= MOST_FIELDS);
        return super.visitClass(type, none);
    }

    @Override
    public Void visitMethod(MethodTree tree, Void none) {
        method = element();
        String name = tree.getName().toString();
        rule(6, "a method of Object's", tree, !Set.of("equals", "hashCode", "toString").contains(name));
        if (method.getKind() == ElementKind.METHOD && method.getModifiers().contains(Modifier.PUBLIC)) {
            publicMethods.add(name);
        } else if (method.getModifiers().contains(Modifier.PRIVATE)) {
            privateMethods.add(name);
        }
        callsOf.computeIfAbsent(method, one -> new HashSet<>());
        rule(11, "parameters of " + name, tree, tree.getParameters().size() <= MOST_PARAMETERS);
        rule(11, "lines of " + name, tree, lines(tree) <= MOST_LINES);
        super.visitMethod(tree, none);
        method = null;
        return null;
    }

    private long lines(Tree tree) {
        long from = trees.getSourcePositions().getStartPosition(unit, tree);
        long to = trees.getSourcePositions().getEndPosition(unit, tree);
        return to < from ? 0 : unit.getLineMap().getLineNumber(to) - unit.getLineMap().getLineNumber(from) + 1;
    }

    @Override
    public Void visitVariable(VariableTree tree, Void none) {
        String type = tree.getType().toString();
        boolean array = type.endsWith("[]");
        boolean own = ownClasses.contains(array ? type.substring(0, type.length() - 2) : type);
        rule(3, "the type " + type, tree, own || PLAIN_TYPES.contains(type));
        Element variable = element();
        if (variable.getKind() == ElementKind.FIELD && variable.getModifiers().contains(Modifier.STATIC)) {
            boolean constant = ((VariableElement) variable).getConstantValue() != null;
            rule(5, "static and no constant: " + tree.getName(), tree,
                constant && variable.getModifiers().contains(Modifier.FINAL));
        }
        return super.visitVariable(tree, none);
    }

    @Override
    public Void visitMethodInvocation(MethodInvocationTree tree, Void none) {
        Element called = element();
        String owner = called.getEnclosingElement().toString();
        boolean superclass = owner.equals("java.lang.Object") && called.getKind() == ElementKind.CONSTRUCTOR;
        boolean own = owner.equals("PoolDesk") || owner.startsWith("PoolDesk.");
        String full = owner + "." + called.getSimpleName();
        rule(4, "a call of " + full, tree, own || superclass || LIBRARY.contains(full));
        if (method != null) {
            callsOf.get(method).add(called);
        }
        return super.visitMethodInvocation(tree, none);
    }

    @Override
    public Void visitNewClass(NewClassTree tree, Void none) {
        rule(2, "a class without a name", tree, tree.getClassBody() == null);
        rule(4, "a new " + tree.getIdentifier(), tree, ownClasses.contains(tree.getIdentifier().toString()));
        rule(12, "an object that a call makes", tree, isInConstructor());
        return super.visitNewClass(tree, none);
    }

    @Override
    public Void visitNewArray(NewArrayTree tree, Void none) {
        rule(3, "an array of more than one dimension", tree, tree.getDimensions().size() == 1);
        rule(12, "an array that a call makes", tree, isInConstructor());
        return super.visitNewArray(tree, none);
    }

    /** Outside of methods a field is given its first value, which is the constructor's work. */
    private boolean isInConstructor() {
        return method == null || method.getKind() == ElementKind.CONSTRUCTOR;
    }

    @Override
    public Void visitForLoop(ForLoopTree loop, Void none) {
        rule(9, "a loop that is not for (int n = ..; n < bound; n++)", loop, counts(loop));
        return super.visitForLoop(loop, none);
    }

    /** Whether a counter runs up to a bound, and the loop's statements change neither of them. */
    private static boolean counts(ForLoopTree loop) {
        if (loop.getInitializer().size() != 1 || loop.getUpdate().size() != 1
            || !(loop.getInitializer().get(0) instanceof VariableTree counter)
            || !(loop.getCondition() instanceof BinaryTree bound)) {
            return false;
        }
        String name = counter.getName().toString();
        Set<String> changed = changedIn(loop.getStatement());
        return bound.getKind() == Tree.Kind.LESS_THAN
            && bound.getLeftOperand().toString().equals(name)
            && loop.getUpdate().get(0).getExpression().toString().equals(name + "++")
            && !changed.contains(name) && !changed.contains(bound.getRightOperand().toString());
    }

    private static Set<String> changedIn(Tree statement) {
        Set<String> changed = new HashSet<>();
        new TreeScanner<Void, Void>() {
            @Override
            public Void visitAssignment(AssignmentTree tree, Void none) {
                changed.add(tree.getVariable().toString());
                return super.visitAssignment(tree, none);
            }

            @Override
            public Void visitCompoundAssignment(CompoundAssignmentTree tree, Void none) {
                changed.add(tree.getVariable().toString());
                return super.visitCompoundAssignment(tree, none);
            }

            @Override
            public Void visitUnary(UnaryTree tree, Void none) {
                if (tree.getKind() == Tree.Kind.POSTFIX_INCREMENT) {
                    changed.add(tree.getExpression().toString());
                }
                return super.visitUnary(tree, none);
            }
        }.scan(statement, null);
        return changed;
    }
}
