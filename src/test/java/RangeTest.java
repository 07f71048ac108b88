import java.lang.reflect.Field;
import java.lang.reflect.Method;

/**
 * Promise 5, with "Types": the edges of RANGE that no body can reach, since every low bound is 8 at
 * most and every high bound -8 at least. So the program's own methods are asked, which are otherwise
 * free: where there are none of these names, there is nothing to ask.
 */
public final class RangeTest {
    private static final Check CHECK = new Check();
    private static final int LEAST = Integer.MIN_VALUE;
    private static final int MOST = Integer.MAX_VALUE;
    private static Method rangeType;
    private static Method inferNumeric;
    private static Field nodeTypes;
    private static int empty;
    private static int shift;
    private static int lowPlace;
    private static int highPlace;

    public static void main(String[] args) throws IllegalAccessException {
        if (!find()) {
            System.out.println("no methods of these names to ask");
            return;
        }
        CHECK.sentence("If l2 > h2 there is no range.", RangeTest::noRange);
        CHECK.sentence("let l2 = max(l, -99)", RangeTest::belowLeast);
        CHECK.sentence("and h2 = min(h, 99)", RangeTest::aboveGreatest);
        CHECK.sentence("Either is BOT where there is no range.", RangeTest::bottomWithoutRange);
        CHECK.finish();
    }

    private static boolean find() throws IllegalAccessException {
        Class<?> program = SuccessTyping.class;
        try {
            rangeType = program.getDeclaredMethod("rangeType", int.class, int.class);
            inferNumeric = program.getDeclaredMethod("inferNumeric", int.class);
            nodeTypes = program.getDeclaredField("nodeTypes");
            rangeType.setAccessible(true);
            inferNumeric.setAccessible(true);
            nodeTypes.setAccessible(true);
            empty = constant("EMPTY");
            shift = constant("BOUND_SHIFT");
            lowPlace = constant("LOW_PLACE");
            highPlace = constant("HIGH_PLACE");
            return true;
        } catch (NoSuchMethodException | NoSuchFieldException absent) {
            return false;
        }
    }

    private static int constant(String name) throws NoSuchFieldException, IllegalAccessException {
        Field field = SuccessTyping.class.getDeclaredField(name);
        field.setAccessible(true);
        return field.getInt(null);
    }

    private static int range(int l, int h) {
        try {
            return (int) rangeType.invoke(null, l, h);
        } catch (ReflectiveOperationException thrown) {
            throw new IllegalStateException(thrown);
        }
    }

    private static void noRange() {
        int[][] none = {{100, 100}, {100, 198}, {100, MOST}, {-100, -100}, {-198, -100},
            {LEAST, -100}, {MOST, MOST}, {LEAST, LEAST}, {1, 0}, {9, 8}, {-8, -9}, {99, -99}};
        for (int[] ends : none) {
            CHECK.due("RANGE(" + ends[0] + ", " + ends[1] + ")", range(ends[0], ends[1]), empty);
        }
        for (int c = -99; c <= 99; c++) {
            CHECK.due("RANGE(" + c + ", " + c + ") is one", range(c, c) != empty, true);
        }
    }

    private static void belowLeast() {
        for (int l : new int[] {LEAST, -198, -101, -100}) {
            CHECK.due("RANGE(" + l + ", -99)", range(l, -99), range(-99, -99));
            CHECK.due("RANGE(" + l + ", 0)", range(l, 0), range(-99, 0));
            CHECK.due("RANGE(" + l + ", 99)", range(l, 99), range(-99, 99));
        }
    }

    private static void aboveGreatest() {
        for (int h : new int[] {MOST, 198, 101, 100}) {
            CHECK.due("RANGE(99, " + h + ")", range(99, h), range(99, 99));
            CHECK.due("RANGE(0, " + h + ")", range(0, h), range(0, 99));
            CHECK.due("RANGE(-99, " + h + ")", range(-99, h), range(-99, 99));
        }
    }

    /** The integer alone, which a type never holds if it lies outside -8..8. */
    private static int alone(int v) {
        return v + shift << lowPlace | v + shift << highPlace;
    }

    /** What the rule makes of children of these types; EMPTY is how the program keeps BOT. */
    private static int numeric(String kind, int x, int y) {
        SuccessTyping s = Bodies.inferred(CHECK, 0, "i1 i2 " + kind);
        try {
            int[] types = (int[]) nodeTypes.get(s);
            types[0] = alone(x);
            types[1] = alone(y);
            return (int) inferNumeric.invoke(s, 2);
        } catch (ReflectiveOperationException thrown) {
            throw new IllegalStateException(thrown);
        }
    }

    private static void bottomWithoutRange() {
        CHECK.due("99 + 1", numeric("+", 99, 1), empty);
        CHECK.due("99 + 99", numeric("+", 99, 99), empty);
        CHECK.due("-99 + -1", numeric("+", -99, -1), empty);
        CHECK.due("-99 + -99", numeric("+", -99, -99), empty);
        CHECK.due("99 - -1", numeric("-", 99, -1), empty);
        CHECK.due("99 - -99", numeric("-", 99, -99), empty);
        CHECK.due("-99 - 1", numeric("-", -99, 1), empty);
        CHECK.due("-99 - 99", numeric("-", -99, 99), empty);
        CHECK.due("98 + 1", numeric("+", 98, 1), range(99, 99));
        CHECK.due("-98 + -1", numeric("+", -98, -1), range(-99, -99));
        CHECK.due("98 - -1", numeric("-", 98, -1), range(99, 99));
        CHECK.due("-98 - 1", numeric("-", -98, 1), range(-99, -99));
    }
}
