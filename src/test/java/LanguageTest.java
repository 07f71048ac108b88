import com.sun.source.tree.ArrayTypeTree;
import com.sun.source.tree.ClassTree;
import com.sun.source.tree.CompilationUnitTree;
import com.sun.source.tree.ExpressionTree;
import com.sun.source.tree.IdentifierTree;
import com.sun.source.tree.MethodInvocationTree;
import com.sun.source.tree.MethodTree;
import com.sun.source.tree.NewArrayTree;
import com.sun.source.tree.PrimitiveTypeTree;
import com.sun.source.tree.Tree;
import com.sun.source.tree.VariableTree;
import com.sun.source.util.JavacTask;
import com.sun.source.util.SourcePositions;
import com.sun.source.util.TreeScanner;
import com.sun.source.util.Trees;
import java.io.File;
import java.io.IOException;
import java.util.EnumSet;
import java.util.LinkedHashMap;
import java.util.LinkedHashSet;
import java.util.Map;
import java.util.Set;
import javax.lang.model.element.Modifier;
import javax.lang.model.type.TypeKind;
import javax.tools.JavaCompiler;
import javax.tools.StandardJavaFileManager;
import javax.tools.ToolProvider;

/** The rules of LANGUAGE.md that can be read off the program's text. */
public final class LanguageTest {
    private static final Check CHECK = new Check();
    private static final String PROGRAM = "src/main/java/SuccessTyping.java";
    private static final Set<Tree.Kind> RULED_OUT = EnumSet.of(Tree.Kind.THROW, Tree.Kind.TRY,
        Tree.Kind.CATCH, Tree.Kind.SYNCHRONIZED, Tree.Kind.ASSERT, Tree.Kind.INSTANCE_OF,
        Tree.Kind.LAMBDA_EXPRESSION, Tree.Kind.MEMBER_REFERENCE, Tree.Kind.NEW_CLASS,
        Tree.Kind.NULL_LITERAL, Tree.Kind.STRING_LITERAL, Tree.Kind.FLOAT_LITERAL,
        Tree.Kind.DOUBLE_LITERAL, Tree.Kind.IMPORT, Tree.Kind.PACKAGE);
    private static final Set<TypeKind> NUMBERS = EnumSet.of(TypeKind.INT, TypeKind.LONG,
        TypeKind.SHORT, TypeKind.BYTE, TypeKind.CHAR, TypeKind.BOOLEAN);

    private static final Map<String, Set<String>> CALLS = new LinkedHashMap<>();

    public static void main(String[] args) throws IOException {
        JavaCompiler compiler = ToolProvider.getSystemJavaCompiler();
        try (StandardJavaFileManager files = compiler.getStandardFileManager(null, null, null)) {
            JavacTask task = (JavacTask) compiler.getTask(null, files, null, null, null,
                files.getJavaFileObjects(new File(PROGRAM)));
            CompilationUnitTree unit = task.parse().iterator().next();
            CHECK.due("classes in the file (1)", unit.getTypeDecls().size(), 1);
            unit.accept(new Words(), null);
            ClassTree type = (ClassTree) unit.getTypeDecls().get(0);
            members(type, unit, Trees.instance(task).getSourcePositions());
        }
        for (String method : CALLS.keySet()) {
            CHECK.due("calls at most six deep from " + method + " (8, 10)", depth(method, 1) <= 6, true);
        }
        CHECK.finish();
    }

    private static void members(ClassTree type, CompilationUnitTree unit, SourcePositions places) {
        int fields = 0;
        for (Tree member : type.getMembers()) {
            if (member instanceof VariableTree field) {
                fields += field.getModifiers().getFlags().contains(Modifier.STATIC) ? 0 : 1;
                field(field);
            } else if (member instanceof MethodTree method) {
                long from = unit.getLineMap().getLineNumber(places.getStartPosition(unit, method));
                long to = unit.getLineMap().getLineNumber(places.getEndPosition(unit, method));
                method(method, to - from + 1);
            } else {
                CHECK.due("no other member than fields and methods (1)", false, true);
            }
        }
        CHECK.due("at most forty fields (10): " + fields, fields <= 40, true);
    }

    private static void field(VariableTree field) {
        String name = field.getName() + "";
        Set<Modifier> flags = field.getModifiers().getFlags();
        if (flags.contains(Modifier.STATIC)) {
            boolean constant = flags.contains(Modifier.FINAL) && field.getInitializer() != null;
            CHECK.due(name + " is a constant (5)", constant, true);
            String type = field.getType().toString();
            CHECK.due(name + " is an int or a long (5)", type.equals("int") || type.equals("long"), true);
        } else {
            CHECK.due(name + " is private (1)", flags.contains(Modifier.PRIVATE), true);
        }
        if (field.getInitializer() instanceof NewArrayTree made) {
            ExpressionTree length = made.getDimensions().get(0);
            boolean plain = made.getDimensions().size() == 1 && (length instanceof IdentifierTree
                || length.getKind() == Tree.Kind.INT_LITERAL);
            CHECK.due("the length of " + name + " is a constant (4)", plain, true);
        }
    }

    private static void method(MethodTree method, long lines) {
        String name = method.getName() + "";
        CHECK.due(name + " is there once (1)", CALLS.containsKey(name), false);
        CHECK.due(name + " is short (10)", lines <= 60, true);
        CHECK.due(name + " has few parameters (10)", method.getParameters().size() <= 7, true);
        boolean array = method.getReturnType() instanceof ArrayTypeTree;
        CHECK.due(name + " answers no array (4)", array, false);
        CALLS.put(name, new LinkedHashSet<>());
        method.accept(new Inside(name), null);
    }

    /** A method that calls itself, however far around, comes out far too deep. */
    private static int depth(String method, int above) {
        int deepest = above;
        for (String called : CALLS.getOrDefault(method, Set.of())) {
            if (above < 20) {
                deepest = Math.max(deepest, depth(called, above + 1));
            }
        }
        return deepest;
    }

    /** What may stand nowhere in the file. */
    private static final class Words extends TreeScanner<Void, Void> {
        @Override
        public Void scan(Tree tree, Void nothing) {
            if (tree != null) {
                boolean ruledOut = RULED_OUT.contains(tree.getKind());
                CHECK.due(tree.getKind() + " is fine (2, 3, 4, 6)", ruledOut, false);
            }
            return super.scan(tree, nothing);
        }

        @Override
        public Void visitVariable(VariableTree variable, Void nothing) {
            Tree type = variable.getType();
            if (type instanceof ArrayTypeTree array) {
                type = array.getType();
            }
            boolean number = type instanceof PrimitiveTypeTree plain
                && NUMBERS.contains(plain.getPrimitiveTypeKind());
            CHECK.due("the type of " + variable.getName() + " is fine (2)", number, true);
            return super.visitVariable(variable, nothing);
        }
    }

    /** What may not stand in a method, and which methods it calls. */
    private static final class Inside extends TreeScanner<Void, Void> {
        private final String name;
        private int argumentsAround;

        Inside(String name) {
            this.name = name;
        }

        @Override
        public Void visitNewArray(NewArrayTree made, Void nothing) {
            CHECK.due(name + " makes no array (4)", false, true);
            return super.visitNewArray(made, nothing);
        }

        @Override
        public Void visitMethodInvocation(MethodInvocationTree call, Void nothing) {
            ExpressionTree called = call.getMethodSelect();
            if (called.toString().equals("super")) {
                return null;
            }
            CHECK.due(name + " calls " + called + " plainly (3)", called instanceof IdentifierTree, true);
            CHECK.due("a call of " + called + " in arguments in " + name + " (10)", argumentsAround, 0);
            CALLS.get(name).add(called.toString());
            argumentsAround++;
            super.visitMethodInvocation(call, nothing);
            argumentsAround--;
            return null;
        }
    }
}
