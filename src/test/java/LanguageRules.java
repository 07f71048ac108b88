import com.sun.source.tree.ArrayTypeTree;
import com.sun.source.tree.AssignmentTree;
import com.sun.source.tree.BinaryTree;
import com.sun.source.tree.BlockTree;
import com.sun.source.tree.ClassTree;
import com.sun.source.tree.CompilationUnitTree;
import com.sun.source.tree.ConditionalExpressionTree;
import com.sun.source.tree.DoWhileLoopTree;
import com.sun.source.tree.EnhancedForLoopTree;
import com.sun.source.tree.ExpressionTree;
import com.sun.source.tree.ForLoopTree;
import com.sun.source.tree.IdentifierTree;
import com.sun.source.tree.IfTree;
import com.sun.source.tree.MemberSelectTree;
import com.sun.source.tree.MethodInvocationTree;
import com.sun.source.tree.MethodTree;
import com.sun.source.tree.NewArrayTree;
import com.sun.source.tree.PrimitiveTypeTree;
import com.sun.source.tree.SwitchTree;
import com.sun.source.tree.Tree;
import com.sun.source.tree.TypeCastTree;
import com.sun.source.tree.VariableTree;
import com.sun.source.tree.WhileLoopTree;
import com.sun.source.util.SourcePositions;
import com.sun.source.util.TreeScanner;
import java.util.EnumSet;
import java.util.HashSet;
import java.util.LinkedHashMap;
import java.util.LinkedHashSet;
import java.util.Map;
import java.util.Set;
import java.util.TreeSet;
import javax.lang.model.element.Modifier;
import javax.lang.model.type.TypeKind;

/**
 * Reads off a program's text which rules of LANGUAGE.md it breaks. Where a rule says "some", a little
 * more is let pass: a text that keeps to the rules must not be refused.
 */
final class LanguageRules extends TreeScanner<Void, Void> {
    private static final int MOST_LINES = 75;
    private static final int MOST_FIELDS = 45;
    private static final int MOST_PARAMETERS = 7;
    private static final int MOST_DEEP = 6;
    private static final String CONSTRUCTOR = "<init>";
    private static final Set<Tree.Kind> RULE_6 = EnumSet.of(Tree.Kind.THROW, Tree.Kind.TRY,
        Tree.Kind.CATCH, Tree.Kind.SYNCHRONIZED, Tree.Kind.ASSERT, Tree.Kind.INSTANCE_OF,
        Tree.Kind.LAMBDA_EXPRESSION, Tree.Kind.MEMBER_REFERENCE);
    private static final Set<Tree.Kind> RULE_2 = EnumSet.of(Tree.Kind.STRING_LITERAL,
        Tree.Kind.FLOAT_LITERAL, Tree.Kind.DOUBLE_LITERAL, Tree.Kind.PARAMETERIZED_TYPE);
    private static final Set<Tree.Kind> COMPARISONS = EnumSet.of(Tree.Kind.LESS_THAN,
        Tree.Kind.LESS_THAN_EQUAL, Tree.Kind.GREATER_THAN, Tree.Kind.GREATER_THAN_EQUAL,
        Tree.Kind.NOT_EQUAL_TO);
    private static final Set<Tree.Kind> WAYS_OUT = EnumSet.of(Tree.Kind.BREAK, Tree.Kind.RETURN);
    private static final Set<TypeKind> NUMBERS = EnumSet.of(TypeKind.INT, TypeKind.LONG,
        TypeKind.SHORT, TypeKind.BYTE, TypeKind.CHAR, TypeKind.BOOLEAN);

    private final Set<String> broken = new TreeSet<>();
    private final Map<String, Set<String>> calls = new LinkedHashMap<>();
    private final Set<String> publicMethods = new HashSet<>();
    private final Set<String> privateMethods = new HashSet<>();
    private final Set<String> constants = new HashSet<>();
    private final Set<String> arrays = new HashSet<>();
    private final Set<String> arrayFields = new HashSet<>();
    private String className = "";
    private String method = "";
    private int argumentsAround;
    private int turnsAround;

    /** The rules that are broken, each as its number and what breaks it. */
    static Set<String> broken(CompilationUnitTree unit, SourcePositions places) {
        LanguageRules rules = new LanguageRules();
        rules.file(unit, places);
        return rules.broken;
    }

    private void ask(boolean kept, int rule, String what) {
        if (!kept) {
            broken.add(rule + ": " + what);
        }
    }

    private void file(CompilationUnitTree unit, SourcePositions places) {
        ask(unit.getPackage() == null, 1, "a package line");
        ask(unit.getImports().isEmpty(), 3, "an import");
        ask(unit.getTypeDecls().size() == 1, 1, "more than one class");
        ClassTree type = (ClassTree) unit.getTypeDecls().get(0);
        className = type.getSimpleName().toString();
        boolean plain = type.getKind() == Tree.Kind.CLASS && type.getExtendsClause() == null
            && type.getImplementsClause().isEmpty();
        ask(plain, 1, "not a plain class");
        int fields = 0;
        for (Tree member : type.getMembers()) {
            if (member instanceof VariableTree field) {
                fields += isStatic(field) ? 0 : 1;
                noteField(field);
            } else if (member instanceof MethodTree made) {
                noteMethod(made, lines(unit, places, made));
            } else if (member instanceof BlockTree block) {
                ask(!block.isStatic(), 5, "a static initialiser");
            } else {
                ask(false, 1, "a member that is no field and no method");
            }
        }
        ask(fields <= MOST_FIELDS, 10, fields + " fields");
        for (Tree member : type.getMembers()) {
            scan(member, null);
        }
        closeCalls();
    }

    private static long lines(CompilationUnitTree unit, SourcePositions places, Tree tree) {
        long from = unit.getLineMap().getLineNumber(places.getStartPosition(unit, tree));
        long to = unit.getLineMap().getLineNumber(places.getEndPosition(unit, tree));
        return to - from + 1;
    }

    private static boolean isStatic(VariableTree field) {
        return field.getModifiers().getFlags().contains(Modifier.STATIC);
    }

    private void noteField(VariableTree field) {
        String name = field.getName().toString();
        Set<Modifier> flags = field.getModifiers().getFlags();
        if (isStatic(field)) {
            String type = field.getType().toString();
            boolean number = type.equals("int") || type.equals("long");
            boolean constant = flags.contains(Modifier.FINAL) && isConstant(field.getInitializer());
            ask(number && constant, 5, name + " is static and no constant");
            constants.add(name);
        } else {
            ask(flags.contains(Modifier.PRIVATE), 1, name + " is a field to be seen from outside");
        }
        if (field.getType() instanceof ArrayTypeTree) {
            arrayFields.add(name);
        }
    }

    private void noteMethod(MethodTree made, long lines) {
        String name = made.getName().toString();
        Set<Modifier> flags = made.getModifiers().getFlags();
        boolean open = flags.contains(Modifier.PUBLIC);
        ask(open || flags.contains(Modifier.PRIVATE), 1, name + " is neither public nor private");
        (open ? publicMethods : privateMethods).add(name);
        ask(!flags.contains(Modifier.SYNCHRONIZED), 6, name + " is synchronized");
        ask(lines <= MOST_LINES, 10, name + " has " + lines + " lines");
        ask(made.getParameters().size() <= MOST_PARAMETERS, 10, name + " has many parameters");
        ask(made.getThrows().isEmpty(), 6, name + " throws");
        Tree answers = made.getReturnType();
        ask(!(answers instanceof ArrayTypeTree), 4, name + " answers an array");
        boolean number = answers == null || isNumber(answers) || answers.toString().equals("void");
        ask(number || answers instanceof ArrayTypeTree, 2, name + " answers no number");
        calls.putIfAbsent(name, new LinkedHashSet<>());
    }

    private void closeCalls() {
        for (String name : calls.keySet()) {
            ask(!(publicMethods.contains(name) && privateMethods.contains(name)), 1,
                name + " is public and private");
            ask(!isReached(name, name), 8, name + " calls itself");
            for (String called : calls.get(name)) {
                ask(calls.containsKey(called), 3, name + " calls " + called);
            }
        }
        boolean recursive = calls.keySet().stream().anyMatch(name -> isReached(name, name));
        for (String name : recursive ? Set.<String>of() : calls.keySet()) {
            ask(depthBelow(name) <= MOST_DEEP, 10, "calls go too deep from " + name);
        }
    }

    private boolean isReached(String from, String wanted) {
        Set<String> seen = new LinkedHashSet<>(calls.get(from));
        for (int i = 0; i < calls.size(); i++) {
            for (String name : Set.copyOf(seen)) {
                seen.addAll(calls.getOrDefault(name, Set.of()));
            }
        }
        return seen.contains(wanted);
    }

    private int depthBelow(String name) {
        int deepest = 0;
        for (String called : calls.getOrDefault(name, Set.of())) {
            deepest = Math.max(deepest, depthBelow(called) + 1);
        }
        return deepest;
    }

    private static boolean isNumber(Tree type) {
        return type instanceof PrimitiveTypeTree plain && NUMBERS.contains(plain.getPrimitiveTypeKind());
    }

    private static boolean contains(Tree tree, Set<Tree.Kind> kinds) {
        boolean[] found = new boolean[1];
        new TreeScanner<Void, Void>() {
            @Override
            public Void scan(Tree inner, Void nothing) {
                found[0] |= inner != null && kinds.contains(inner.getKind());
                return super.scan(inner, nothing);
            }
        }.scan(tree, null);
        return found[0];
    }

    /** A constant is made of literals, other constants and operators; what they are is javac's part. */
    private static boolean isConstant(ExpressionTree made) {
        return made != null && !contains(made, EnumSet.of(Tree.Kind.METHOD_INVOCATION,
            Tree.Kind.NEW_ARRAY, Tree.Kind.NEW_CLASS, Tree.Kind.ARRAY_ACCESS, Tree.Kind.ASSIGNMENT));
    }

    @Override
    public Void scan(Tree tree, Void nothing) {
        if (tree != null) {
            Tree.Kind kind = tree.getKind();
            ask(!RULE_6.contains(kind), 6, kind + " in " + method);
            ask(!RULE_2.contains(kind), 2, kind + " in " + method);
            ask(kind != Tree.Kind.NULL_LITERAL, 4, "null in " + method);
            ask(kind != Tree.Kind.NEW_CLASS, 4, "an object is made in " + method);
            ask(!(tree instanceof ClassTree), 1, "a class within the class");
        }
        return super.scan(tree, nothing);
    }

    @Override
    public Void visitMethod(MethodTree made, Void nothing) {
        method = made.getName().toString();
        arrays.clear();
        arrays.addAll(arrayFields);
        super.visitMethod(made, nothing);
        method = "";
        return null;
    }

    @Override
    public Void visitVariable(VariableTree variable, Void nothing) {
        Tree type = variable.getType();
        boolean array = type instanceof ArrayTypeTree;
        Tree plain = type instanceof ArrayTypeTree of ? of.getType() : type;
        String name = variable.getName().toString();
        ask(isNumber(plain), 2, "the type of " + name);
        if (array) {
            arrays.add(name);
        } else {
            arrays.remove(name);
        }
        return super.visitVariable(variable, nothing);
    }

    @Override
    public Void visitTypeCast(TypeCastTree cast, Void nothing) {
        ask(isNumber(cast.getType()), 6, "a cast to " + cast.getType());
        return super.visitTypeCast(cast, nothing);
    }

    @Override
    public Void visitMemberSelect(MemberSelectTree select, Void nothing) {
        String owner = select.getExpression().toString();
        boolean own = owner.equals("this") || owner.equals(className);
        boolean length = select.getIdentifier().contentEquals("length");
        ask(own || length, 3, select + " in " + method);
        return super.visitMemberSelect(select, nothing);
    }

    @Override
    public Void visitMethodInvocation(MethodInvocationTree call, Void nothing) {
        ExpressionTree select = call.getMethodSelect();
        String called = select instanceof MemberSelectTree dotted
            ? dotted.getIdentifier().toString() : select.toString();
        ask(argumentsAround == 0, 10, "a call of " + called + " in arguments in " + method);
        calls.computeIfAbsent(method, absent -> new LinkedHashSet<>()).add(called);
        scan(select, nothing);
        argumentsAround++;
        scan(call.getArguments(), nothing);
        argumentsAround--;
        return null;
    }

    @Override
    public Void visitNewArray(NewArrayTree made, Void nothing) {
        boolean place = method.isEmpty() || method.equals(CONSTRUCTOR);
        ask(place, 4, method + " makes an array");
        ask(turnsAround == 0, 4, "an array is made in a loop or behind a condition");
        boolean oneLength = made.getDimensions().size() == 1 && made.getInitializers() == null;
        ask(oneLength && isLength(made.getDimensions().get(0)), 4, "an array's length: " + made);
        ask(isNumber(made.getType()), 2, "an array of no numbers: " + made);
        return super.visitNewArray(made, nothing);
    }

    private boolean isLength(ExpressionTree length) {
        boolean[] known = {isConstant(length)};
        new TreeScanner<Void, Void>() {
            @Override
            public Void visitIdentifier(IdentifierTree name, Void nothing) {
                String text = name.getName().toString();
                known[0] &= constants.contains(text) || text.equals(className);
                return null;
            }
        }.scan(length, null);
        return known[0];
    }

    @Override
    public Void visitAssignment(AssignmentTree set, Void nothing) {
        String target = set.getVariable().toString().replace("this.", "");
        boolean field = arrayFields.contains(target) && !method.equals(CONSTRUCTOR);
        ask(!field, 4, method + " assigns to the array field " + target);
        return super.visitAssignment(set, nothing);
    }

    @Override
    public Void visitBinary(BinaryTree binary, Void nothing) {
        boolean same = binary.getKind() == Tree.Kind.EQUAL_TO || binary.getKind() == Tree.Kind.NOT_EQUAL_TO;
        boolean array = isArray(binary.getLeftOperand()) || isArray(binary.getRightOperand());
        ask(!(same && array), 4, "arrays are compared: " + binary);
        return super.visitBinary(binary, nothing);
    }

    private boolean isArray(ExpressionTree operand) {
        return arrays.contains(operand.toString().replace("this.", ""));
    }

    @Override
    public Void visitConditionalExpression(ConditionalExpressionTree choice, Void nothing) {
        turnsAround++;
        super.visitConditionalExpression(choice, nothing);
        turnsAround--;
        return null;
    }

    @Override
    public Void visitIf(IfTree choice, Void nothing) {
        turnsAround++;
        super.visitIf(choice, nothing);
        turnsAround--;
        return null;
    }

    @Override
    public Void visitSwitch(SwitchTree choice, Void nothing) {
        turnsAround++;
        super.visitSwitch(choice, nothing);
        turnsAround--;
        return null;
    }

    @Override
    public Void visitForLoop(ForLoopTree loop, Void nothing) {
        hasEnd(loop.getCondition(), loop.getStatement());
        turnsAround++;
        super.visitForLoop(loop, nothing);
        turnsAround--;
        return null;
    }

    @Override
    public Void visitEnhancedForLoop(EnhancedForLoopTree loop, Void nothing) {
        turnsAround++;
        super.visitEnhancedForLoop(loop, nothing);
        turnsAround--;
        return null;
    }

    @Override
    public Void visitWhileLoop(WhileLoopTree loop, Void nothing) {
        hasEnd(loop.getCondition(), loop.getStatement());
        turnsAround++;
        super.visitWhileLoop(loop, nothing);
        turnsAround--;
        return null;
    }

    @Override
    public Void visitDoWhileLoop(DoWhileLoopTree loop, Void nothing) {
        hasEnd(loop.getCondition(), loop.getStatement());
        turnsAround++;
        super.visitDoWhileLoop(loop, nothing);
        turnsAround--;
        return null;
    }

    /** That the bound is right can't be read off; that there is none can. */
    private void hasEnd(ExpressionTree condition, Tree body) {
        boolean end = contains(condition, COMPARISONS) || contains(body, WAYS_OUT);
        ask(end, 8, "a loop without a bound in " + method);
    }
}
