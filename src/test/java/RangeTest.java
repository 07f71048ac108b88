import java.lang.reflect.Field;
import java.lang.reflect.Method;

/**
 * Promise 5, with "Types": the edges of RANGE that no body can reach, since every low bound is 8 at
 * most and every high bound -8 at least. So the program's own method is asked, which is otherwise
 * free: where there is none of this name, there is nothing to ask.
 */
public final class RangeTest {
    private static final Check CHECK = new Check();
    private static final int LEAST = Integer.MIN_VALUE;
    private static final int MOST = Integer.MAX_VALUE;
    private static Method rangeType;
    private static int empty;

    public static void main(String[] args) throws IllegalAccessException {
        if (!find()) {
            System.out.println("no method rangeType and constant EMPTY to ask");
            return;
        }
        CHECK.sentence("If l2 > h2 there is no range.", RangeTest::noRange);
        CHECK.sentence("let l2 = max(l, -99)", RangeTest::belowLeast);
        CHECK.sentence("and h2 = min(h, 99)", RangeTest::aboveGreatest);
        CHECK.finish();
    }

    private static boolean find() throws IllegalAccessException {
        try {
            rangeType = SuccessTyping.class.getDeclaredMethod("rangeType", int.class, int.class);
            Field field = SuccessTyping.class.getDeclaredField("EMPTY");
            rangeType.setAccessible(true);
            field.setAccessible(true);
            empty = field.getInt(null);
            return true;
        } catch (NoSuchMethodException | NoSuchFieldException absent) {
            return false;
        }
    }

    private static int range(int l, int h) {
        try {
            return (int) rangeType.invoke(null, l, h);
        } catch (ReflectiveOperationException thrown) {
            throw new IllegalStateException(thrown);
        }
    }

    private static void noRange() {
        int[][] none = {{100, 100}, {100, 198}, {100, MOST}, {-100, -100}, {-198, -100},
            {LEAST, -100}, {MOST, MOST}, {LEAST, LEAST}, {1, 0}, {9, 8}, {-8, -9}, {99, -99}};
        for (int[] ends : none) {
            CHECK.due("RANGE(" + ends[0] + ", " + ends[1] + ")", range(ends[0], ends[1]), empty);
        }
        for (int c = -99; c <= 99; c++) {
            CHECK.due("RANGE(" + c + ", " + c + ") is one", range(c, c) != empty, true);
        }
    }

    private static void belowLeast() {
        for (int l : new int[] {LEAST, -198, -101, -100}) {
            CHECK.due("RANGE(" + l + ", -99)", range(l, -99), range(-99, -99));
            CHECK.due("RANGE(" + l + ", 0)", range(l, 0), range(-99, 0));
            CHECK.due("RANGE(" + l + ", 99)", range(l, 99), range(-99, 99));
        }
    }

    private static void aboveGreatest() {
        for (int h : new int[] {MOST, 198, 101, 100}) {
            CHECK.due("RANGE(99, " + h + ")", range(99, h), range(99, 99));
            CHECK.due("RANGE(0, " + h + ")", range(0, h), range(0, 99));
            CHECK.due("RANGE(-99, " + h + ")", range(-99, h), range(-99, 99));
        }
    }
}
