import com.sun.source.tree.ArrayTypeTree;
import com.sun.source.tree.ClassTree;
import com.sun.source.tree.CompilationUnitTree;
import com.sun.source.tree.ExpressionTree;
import com.sun.source.tree.IdentifierTree;
import com.sun.source.tree.LiteralTree;
import com.sun.source.tree.MemberSelectTree;
import com.sun.source.tree.MethodInvocationTree;
import com.sun.source.tree.MethodTree;
import com.sun.source.tree.NewArrayTree;
import com.sun.source.tree.PrimitiveTypeTree;
import com.sun.source.tree.Tree;
import com.sun.source.tree.VariableTree;
import com.sun.source.util.JavacTask;
import com.sun.source.util.TreePath;
import com.sun.source.util.TreePathScanner;
import com.sun.source.util.Trees;
import java.io.File;
import java.util.HashMap;
import java.util.HashSet;
import java.util.List;
import java.util.Map;
import java.util.Set;
import java.util.TreeSet;
import javax.lang.model.element.Modifier;
import javax.lang.model.type.TypeKind;
import javax.tools.JavaCompiler;
import javax.tools.StandardJavaFileManager;
import javax.tools.ToolProvider;

/** The rules of LANGUAGE.md that can be read off the source of PageSetter. */
public final class LanguageTest {
    private static final Set<String> FACE = Set.of("insert", "remove", "restyle", "mark", "add", "drop",
        "style", "page", "track", "resolve", "step", "paragraph", "line", "word", "column", "total");
    private static final Set<Tree.Kind> FORBIDDEN = Set.of(Tree.Kind.THROW, Tree.Kind.TRY, Tree.Kind.CATCH,
        Tree.Kind.SYNCHRONIZED, Tree.Kind.ASSERT, Tree.Kind.INSTANCE_OF, Tree.Kind.LAMBDA_EXPRESSION,
        Tree.Kind.MEMBER_REFERENCE, Tree.Kind.NEW_CLASS, Tree.Kind.NULL_LITERAL, Tree.Kind.STRING_LITERAL,
        Tree.Kind.FLOAT_LITERAL, Tree.Kind.DOUBLE_LITERAL, Tree.Kind.ENHANCED_FOR_LOOP, Tree.Kind.IMPORT);

    private static final Map<String, Set<String>> CALLS = new HashMap<>();
    private static final Set<String> CONSTANTS = new HashSet<>();
    private static Trees trees;
    private static CompilationUnitTree unit;

    private LanguageTest() { }

    public static void main(String[] args) throws Exception {
        JavaCompiler compiler = ToolProvider.getSystemJavaCompiler();
        StandardJavaFileManager files = compiler.getStandardFileManager(null, null, null);
        JavacTask task = (JavacTask) compiler.getTask(null, files, null, List.of("-proc:none"), null,
            files.getJavaFileObjects(new File("src/main/java/PageSetter.java")));
        unit = task.parse().iterator().next();
        trees = Trees.instance(task);
        Check.due("types in the file", unit.getTypeDecls().size(), 1);
        Check.due("package lines", unit.getPackageName() == null ? 0 : 1, 0);
        ClassTree type = (ClassTree) unit.getTypeDecls().get(0);
        Check.due("public final class", type.getModifiers().getFlags().equals(Set.of(Modifier.PUBLIC, Modifier.FINAL)), true);
        checkMembers(type);
        new Scan().scan(unit, null);
        for (String name : CALLS.keySet()) {
            Check.due("rules 8 and 10, calls below " + name + " go at most 6 deep", depth(name, new HashSet<>()) <= 6, true);
        }
        Check.finish();
    }

    private static void checkMembers(ClassTree type) {
        int fields = 0;
        Set<String> methods = new TreeSet<>();
        for (Tree member : type.getMembers()) {
            if (member instanceof VariableTree) {
                fields += checkField((VariableTree) member);
            } else {
                methods.add(checkMethod((MethodTree) member));
            }
        }
        Check.due("rule 10, at most 40 fields, not " + fields, fields <= 40, true);
        Check.due("rule 1, the face is there", methods.containsAll(FACE), true);
    }

    private static int checkField(VariableTree field) {
        String name = field.getName().toString();
        Set<Modifier> flags = field.getModifiers().getFlags();
        boolean isOfFace = Set.of("BAD", "FULL", "HIDDEN").contains(name);
        Check.due("rule 1, " + name, flags.contains(isOfFace ? Modifier.PUBLIC : Modifier.PRIVATE), true);
        if (!flags.contains(Modifier.STATIC)) {
            return 1;
        }
        CONSTANTS.add(name);
        Check.due("rule 5, " + name, flags.contains(Modifier.FINAL) && field.getType().toString().equals("int"), true);
        return 0;
    }

    private static String checkMethod(MethodTree method) {
        String name = method.getName().toString();
        boolean isOfFace = FACE.contains(name) || name.equals("<init>");
        Set<Modifier> flags = method.getModifiers().getFlags();
        Check.due("rule 1, " + name, flags.contains(isOfFace ? Modifier.PUBLIC : Modifier.PRIVATE), true);
        Check.due("rule 10, parameters of " + name, method.getParameters().size() <= 7, true);
        long lines = lineAt(trees.getSourcePositions().getEndPosition(unit, method))
            - lineAt(trees.getSourcePositions().getStartPosition(unit, method)) + 1;
        Check.due("rule 10, length of " + name, lines <= 60, true);
        return name;
    }

    private static long lineAt(long position) {
        return unit.getLineMap().getLineNumber(position);
    }

    /** How many methods deep calls go from this one; very deep if it can come back to itself. */
    private static int depth(String name, Set<String> above) {
        if (!above.add(name)) {
            return 1000;
        }
        int deepest = 0;
        for (String called : CALLS.getOrDefault(name, Set.of())) {
            deepest = Math.max(deepest, depth(called, above));
        }
        above.remove(name);
        return deepest + 1;
    }

    private static final class Scan extends TreePathScanner<Void, Void> {
        private String method = "";

        @Override
        public Void scan(Tree tree, Void v) {
            if (tree != null) {
                Check.due("rule 6 or others, " + tree.getKind() + " in " + method, FORBIDDEN.contains(tree.getKind()), false);
            }
            return super.scan(tree, v);
        }

        @Override
        public Void visitMethod(MethodTree tree, Void v) {
            method = tree.getName().toString();
            CALLS.putIfAbsent(method, new TreeSet<>());
            return super.visitMethod(tree, v);
        }

        @Override
        public Void visitMethodInvocation(MethodInvocationTree tree, Void v) {
            if (!tree.toString().startsWith("super(")) {
                CALLS.get(method).add(tree.getMethodSelect().toString());
                Check.due("rule 3, " + tree, tree.getMethodSelect() instanceof IdentifierTree, true);
            }
            for (TreePath up = getCurrentPath().getParentPath(); up != null; up = up.getParentPath()) {
                Check.due("rule 10, a call in the arguments of one: " + tree, up.getLeaf() instanceof MethodInvocationTree, false);
            }
            return super.visitMethodInvocation(tree, v);
        }

        @Override
        public Void visitVariable(VariableTree tree, Void v) {
            Tree type = tree.getType();
            if (type instanceof ArrayTypeTree) {
                type = ((ArrayTypeTree) type).getType();
            }
            boolean isWhole = type instanceof PrimitiveTypeTree
                && ((PrimitiveTypeTree) type).getPrimitiveTypeKind() != TypeKind.FLOAT
                && ((PrimitiveTypeTree) type).getPrimitiveTypeKind() != TypeKind.DOUBLE;
            Check.due("rule 2, the type of " + tree, isWhole, true);
            return super.visitVariable(tree, v);
        }

        @Override
        public Void visitNewArray(NewArrayTree tree, Void v) {
            Tree field = getCurrentPath().getParentPath().getLeaf();
            Tree owner = getCurrentPath().getParentPath().getParentPath().getLeaf();
            Check.due("rule 4, made in a field: " + tree, field instanceof VariableTree && owner instanceof ClassTree, true);
            List<? extends ExpressionTree> lengths = tree.getDimensions();
            boolean isConstant = lengths.size() == 1
                && (lengths.get(0) instanceof LiteralTree || CONSTANTS.contains(lengths.get(0).toString()));
            Check.due("rule 4, the length: " + tree, isConstant, true);
            return super.visitNewArray(tree, v);
        }

        @Override
        public Void visitMemberSelect(MemberSelectTree tree, Void v) {
            Check.due("rule 3, " + tree, tree.getExpression().toString().equals("this"), true);
            return super.visitMemberSelect(tree, v);
        }
    }
}
