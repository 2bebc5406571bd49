import com.sun.source.tree.AssertTree;
import com.sun.source.tree.AssignmentTree;
import com.sun.source.tree.BlockTree;
import com.sun.source.tree.ClassTree;
import com.sun.source.tree.CompilationUnitTree;
import com.sun.source.tree.DoWhileLoopTree;
import com.sun.source.tree.EnhancedForLoopTree;
import com.sun.source.tree.ExpressionTree;
import com.sun.source.tree.ForLoopTree;
import com.sun.source.tree.IdentifierTree;
import com.sun.source.tree.InstanceOfTree;
import com.sun.source.tree.LambdaExpressionTree;
import com.sun.source.tree.LiteralTree;
import com.sun.source.tree.MemberReferenceTree;
import com.sun.source.tree.MemberSelectTree;
import com.sun.source.tree.MethodInvocationTree;
import com.sun.source.tree.MethodTree;
import com.sun.source.tree.NewArrayTree;
import com.sun.source.tree.NewClassTree;
import com.sun.source.tree.SynchronizedTree;
import com.sun.source.tree.ThrowTree;
import com.sun.source.tree.Tree;
import com.sun.source.tree.TryTree;
import com.sun.source.tree.VariableTree;
import com.sun.source.tree.WhileLoopTree;
import com.sun.source.util.JavacTask;
import com.sun.source.util.SourcePositions;
import com.sun.source.util.TreeScanner;
import com.sun.source.util.Trees;
import java.io.IOException;
import java.nio.file.Path;
import java.util.HashMap;
import java.util.HashSet;
import java.util.Map;
import java.util.Set;
import java.util.TreeSet;
import javax.lang.model.element.Modifier;
import javax.tools.JavaCompiler;
import javax.tools.StandardJavaFileManager;
import javax.tools.ToolProvider;

/**
 * The class keeps to the rules of LANGUAGE.md that can be seen in its source. Rules 7 and 11, and in rule 8
 * whether a bound is high enough, cannot; the other tests run the class for those.
 */
public final class LanguageTest extends TreeScanner<Void, Void> {
    private static final Path SOURCE = Path.of("src/main/java/GradedUsage.java");
    private static final Set<String> NUMBER_TYPES =
        Set.of("int", "long", "short", "byte", "char", "boolean", "void");
    private static final int MOST_PARAMETERS = 7;
    private static final int MOST_LINES = 60;
    private static final int MOST_CALLS = 6;
    private static final int MOST_FIELDS = 40;

    private final CompilationUnitTree unit;
    private final SourcePositions positions;
    private final Map<String, Set<String>> callsOf = new HashMap<>();
    private final Set<String> arrayFields = new HashSet<>();
    private String method = null;
    private int argumentsAround = 0;
    private boolean inFieldOfArray = false;
    private int fields = 0;

    private LanguageTest(CompilationUnitTree unit, SourcePositions positions) {
        this.unit = unit;
        this.positions = positions;
    }

    public static void main(String[] args) throws IOException {
        JavaCompiler compiler = ToolProvider.getSystemJavaCompiler();
        try (StandardJavaFileManager files = compiler.getStandardFileManager(null, null, null)) {
            JavacTask task = (JavacTask) compiler.getTask(null, files, null, null, null,
                files.getJavaFileObjects(SOURCE));
            SourcePositions positions = Trees.instance(task).getSourcePositions();
            for (CompilationUnitTree unit : task.parse()) {
                new LanguageTest(unit, positions).testUnit();
            }
        }
        Due.finish();
    }

    private long lineAt(long position) {
        return unit.getLineMap().getLineNumber(position);
    }

    private long line(Tree tree) {
        return lineAt(positions.getStartPosition(unit, tree));
    }

    private void need(boolean holds, int rule, Tree tree, String fault) {
        Due.is("rule " + rule + ", line " + line(tree) + ": " + fault, holds ? 0 : 1, 0);
    }

    private void testUnit() {
        need(unit.getPackageName() == null, 1, unit, "a package line");
        need(unit.getImports().isEmpty(), 3, unit, "an import");
        need(unit.getTypeDecls().size() == 1, 1, unit, "more than one class");
        ClassTree type = (ClassTree) unit.getTypeDecls().get(0);
        Set<String> names = new HashSet<>();
        for (Tree member : type.getMembers()) {
            testMember(member, names);
        }
        scan(type.getMembers(), null);
        need(fields <= MOST_FIELDS, 10, type, fields + " fields");
        for (String caller : new TreeSet<>(callsOf.keySet())) {
            need(depth(caller, 0) <= MOST_CALLS, 10, type, "calls too deep, or recursion, from " + caller);
        }
    }

    /** One name for one method also makes sure that no private one bears the name of a public one. */
    private void testMember(Tree member, Set<String> names) {
        if (member instanceof MethodTree) {
            String name = ((MethodTree) member).getName().toString();
            need(names.add(name), 1, member, "a second method " + name);
            callsOf.put(name, new TreeSet<>());
        } else if (member instanceof VariableTree) {
            testField((VariableTree) member);
        } else {
            need(false, 1, member, "neither field nor method");
        }
    }

    private void testField(VariableTree field) {
        String type = field.getType().toString();
        if (field.getModifiers().getFlags().contains(Modifier.STATIC)) {
            boolean constant = field.getModifiers().getFlags().contains(Modifier.FINAL);
            need(constant && (type.equals("int") || type.equals("long")), 5, field, "static, but no constant");
            return;
        }
        fields++;
        if (type.endsWith("[]")) {
            arrayFields.add(field.getName().toString());
        }
    }

    private int depth(String caller, int above) {
        int deepest = above + 1;
        if (deepest <= MOST_CALLS) {
            for (String called : callsOf.get(caller)) {
                deepest = Math.max(deepest, depth(called, above + 1));
            }
        }
        return deepest;
    }

    private void needType(Tree type, Tree at) {
        String name = type.toString();
        String element = name.endsWith("[]") ? name.substring(0, name.length() - 2) : name;
        need(NUMBER_TYPES.contains(element), 2, at, "the type " + name);
    }

    @Override
    public Void visitMethod(MethodTree tree, Void none) {
        method = tree.getName().toString();
        long lines = lineAt(positions.getEndPosition(unit, tree)) - line(tree) + 1;
        need(lines <= MOST_LINES, 10, tree, method + " has " + lines + " lines");
        need(tree.getParameters().size() <= MOST_PARAMETERS, 10, tree, method + " has too many parameters");
        if (tree.getReturnType() != null) {
            needType(tree.getReturnType(), tree);
            need(!tree.getReturnType().toString().endsWith("]"), 4, tree, method + " answers an array");
        }
        super.visitMethod(tree, none);
        method = null;
        return null;
    }

    @Override
    public Void visitVariable(VariableTree tree, Void none) {
        needType(tree.getType(), tree);
        inFieldOfArray = method == null;
        super.visitVariable(tree, none);
        inFieldOfArray = false;
        return null;
    }

    @Override
    public Void visitNewArray(NewArrayTree tree, Void none) {
        boolean plain = tree.getInitializers() == null && tree.getDimensions().size() == 1;
        need(inFieldOfArray && plain, 4, tree, "an array made elsewhere than plainly in a field's initialiser");
        return super.visitNewArray(tree, none);
    }

    @Override
    public Void visitMethodInvocation(MethodInvocationTree tree, Void none) {
        ExpressionTree called = tree.getMethodSelect();
        boolean own = called instanceof IdentifierTree && callsOf.containsKey(called.toString());
        boolean implicit = called.toString().equals("super");
        need(own || implicit, 3, tree, "a call of " + called);
        need(argumentsAround == 0, 10, tree, "a call inside the arguments of another");
        if (own) {
            need(method != null, 4, tree, "a call in a field's initialiser");
            callsOf.get(method == null ? called.toString() : method).add(called.toString());
        }
        argumentsAround++;
        scan(tree.getArguments(), none);
        argumentsAround--;
        return null;
    }

    @Override
    public Void visitMemberSelect(MemberSelectTree tree, Void none) {
        boolean ofThis = tree.getExpression().toString().equals("this");
        need(ofThis || tree.getIdentifier().contentEquals("length"), 3, tree, "the name " + tree);
        return super.visitMemberSelect(tree, none);
    }

    @Override
    public Void visitAssignment(AssignmentTree tree, Void none) {
        String target = tree.getVariable().toString().replace("this.", "");
        need(!arrayFields.contains(target), 4, tree, "an array field assigned");
        return super.visitAssignment(tree, none);
    }

    @Override
    public Void visitLiteral(LiteralTree tree, Void none) {
        Object value = tree.getValue();
        boolean number = value instanceof Integer || value instanceof Long || value instanceof Boolean
            || value instanceof Character;
        need(number, 2, tree, "the literal " + tree);
        return null;
    }

    @Override
    public Void visitForLoop(ForLoopTree tree, Void none) {
        boolean counts = tree.getInitializer().size() == 1 && tree.getUpdate().size() == 1;
        need(counts && tree.getCondition() != null, 8, tree, "a loop without counter and bound");
        return super.visitForLoop(tree, none);
    }

    @Override
    public Void visitBlock(BlockTree tree, Void none) {
        need(method != null, 5, tree, "an initialiser block");
        return super.visitBlock(tree, none);
    }

    private Void outside(int rule, Tree tree) {
        need(false, rule, tree, "outside the language: " + tree.getKind());
        return null;
    }

    /** Allowed with a counter, but that the counter is one cannot be told here: a for loop shows it. */
    @Override
    public Void visitWhileLoop(WhileLoopTree tree, Void none) {
        return outside(8, tree);
    }

    @Override
    public Void visitDoWhileLoop(DoWhileLoopTree tree, Void none) {
        return outside(8, tree);
    }

    @Override
    public Void visitEnhancedForLoop(EnhancedForLoopTree tree, Void none) {
        return outside(8, tree);
    }

    @Override
    public Void visitClass(ClassTree tree, Void none) {
        return outside(1, tree);
    }

    @Override
    public Void visitNewClass(NewClassTree tree, Void none) {
        return outside(4, tree);
    }

    @Override
    public Void visitThrow(ThrowTree tree, Void none) {
        return outside(6, tree);
    }

    @Override
    public Void visitTry(TryTree tree, Void none) {
        return outside(6, tree);
    }

    @Override
    public Void visitSynchronized(SynchronizedTree tree, Void none) {
        return outside(6, tree);
    }

    @Override
    public Void visitAssert(AssertTree tree, Void none) {
        return outside(6, tree);
    }

    @Override
    public Void visitInstanceOf(InstanceOfTree tree, Void none) {
        return outside(6, tree);
    }

    @Override
    public Void visitLambdaExpression(LambdaExpressionTree tree, Void none) {
        return outside(6, tree);
    }

    @Override
    public Void visitMemberReference(MemberReferenceTree tree, Void none) {
        return outside(6, tree);
    }
}
