import java.lang.reflect.Constructor;
import java.lang.reflect.Field;
import java.lang.reflect.Method;
import java.lang.reflect.Modifier;
import java.util.TreeSet;

/** The public face: its constants, constructor and methods, and no other member to be seen. */
public final class FaceTest {
    private static final String METHODS = "int analyze() | boolean analyzed() | int arity(int)"
        + " | int atoms(int, int) | boolean begin(int, int) | int bodySize(int) | int building()"
        + " | int end() | int intHi(int, int) | int intLo(int, int) | boolean member(int, int, int)"
        + " | boolean node(int, int, int) | int nodeAt(int, int) | int pending() | int result()"
        + " | int run(int, int, int)";
    private static final String CONSTANTS = "KIND_INT=0 KIND_ATOM=1 KIND_VAR=2 KIND_ADD=3 KIND_SUB=4"
        + " KIND_LESS=5 KIND_EQ=6 KIND_ISINT=7 KIND_IF=8 KIND_CALL=9 ATOM_BASE=1000"
        + " FALSE_CODE=1000 TRUE_CODE=1001 INT_MIN=-99 INT_MAX=99 MAX_FUNCTIONS=8"
        + " MIN_CAPACITY=16 MAX_CAPACITY=128 MAX_DEPTH=10 CALL_LIMIT=200 ACTIVE_LIMIT=16"
        + " WHICH_P0=0 WHICH_P1=1 WHICH_RESULT=2 NO_INT=1000 BAD=-1000 RUN_OK=0 RUN_FAIL=1"
        + " RUN_LIMIT=2 RUN_REFUSED=3 END_NOT_BUILDING=-1 END_DISCARDED=-2";

    public static void main(String[] args) throws IllegalAccessException {
        Check check = new Check();
        Class<?> face = SuccessTyping.class;
        check.due("the class's modifiers", Modifier.toString(face.getModifiers()), "public final");
        check.due("the methods", methods(face), sorted(METHODS.split(" \\| ")));
        check.due("the constants", constants(face), sorted(CONSTANTS.split(" ")));
        Constructor<?>[] made = face.getDeclaredConstructors();
        check.due("the constructors", made.length, 1);
        check.due("the constructor", made[0].toString(), "public SuccessTyping(int,int)");
        check.due("nested classes", face.getDeclaredClasses().length, 0);
        check.finish();
    }

    private static String sorted(String[] parts) {
        return new TreeSet<>(java.util.Arrays.asList(parts)).toString();
    }

    private static String methods(Class<?> face) {
        TreeSet<String> found = new TreeSet<>();
        for (Method method : face.getDeclaredMethods()) {
            if (Modifier.isPrivate(method.getModifiers())) {
                continue;
            }
            String text = method.getReturnType() + " " + method.getName() + "(";
            String between = "";
            for (Class<?> type : method.getParameterTypes()) {
                text += between + type;
                between = ", ";
            }
            boolean plain = method.getModifiers() == Modifier.PUBLIC;
            found.add(text + ")" + (plain ? "" : " with other modifiers"));
        }
        return found.toString();
    }

    private static String constants(Class<?> face) throws IllegalAccessException {
        TreeSet<String> found = new TreeSet<>();
        for (Field field : face.getDeclaredFields()) {
            if (Modifier.isPrivate(field.getModifiers())) {
                continue;
            }
            boolean constant = Modifier.toString(field.getModifiers()).equals("public static final");
            if (constant && field.getType() == int.class) {
                found.add(field.getName() + "=" + field.getInt(null));
            } else {
                found.add(field.getName() + " is no constant");
            }
        }
        return found.toString();
    }
}
