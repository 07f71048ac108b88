/** Promise 1: construction. */
public final class ConstructionTest {
    private static final Check CHECK = new Check();
    private static final int LEAST = Integer.MIN_VALUE;
    private static final int MOST = Integer.MAX_VALUE;

    public static void main(String[] args) {
        CHECK.sentence("sets n to functions clamped into [1, MAX_FUNCTIONS]",
            () -> slots(new int[] {1, 2, 3, 4, 5, 6, 7, 8}, new int[] {1, 2, 3, 4, 5, 6, 7, 8}));
        CHECK.sentence("below 1 becomes 1",
            () -> slots(new int[] {0, -1, -8, LEAST}, new int[] {1, 1, 1, 1}));
        CHECK.sentence("above 8 becomes 8",
            () -> slots(new int[] {9, 10, 100, MOST}, new int[] {8, 8, 8, 8}));
        CHECK.sentence("The pool size is capacity clamped into [MIN_CAPACITY, MAX_CAPACITY]",
            () -> rooms(new int[] {16, 17, 64, 127, 128}, new int[] {16, 17, 64, 127, 128}));
        CHECK.sentence("below 16 becomes 16",
            () -> rooms(new int[] {15, 1, 0, -1, -64, LEAST}, new int[] {16, 16, 16, 16, 16, 16}));
        CHECK.sentence("above 128 becomes 128",
            () -> rooms(new int[] {129, 256, 1000, MOST}, new int[] {128, 128, 128, 128}));
        CHECK.sentence("Any int is accepted, including Integer.MIN_VALUE and Integer.MAX_VALUE.",
            ConstructionTest::extremes);
        CHECK.sentence("all slots are UNDEFINED", ConstructionTest::slotsUndefined);
        CHECK.sentence("none is BUILDING, so building() is -1 and pending() is 0",
            ConstructionTest::noneBuilding);
        CHECK.sentence("the pool holds no nodes", ConstructionTest::poolEmpty);
        CHECK.sentence("all summaries are EMPTY", ConstructionTest::summariesEmpty);
        CHECK.sentence("analyzed() is false", ConstructionTest::notAnalyzed);
        CHECK.sentence("result() is 0", ConstructionTest::resultZero);
        CHECK.sentence("(one object's calls are not another's)", ConstructionTest::objectsAreApart);
        CHECK.finish();
    }

    private static void slots(int[] asked, int[] due) {
        for (int i = 0; i < asked.length; i++) {
            isOfSize(asked[i], 64, due[i], 64);
        }
    }

    private static void rooms(int[] asked, int[] due) {
        for (int i = 0; i < asked.length; i++) {
            isOfSize(5, asked[i], 5, due[i]);
        }
    }

    private static void extremes() {
        isOfSize(LEAST, LEAST, 1, 16);
        isOfSize(LEAST, MOST, 1, 128);
        isOfSize(MOST, LEAST, 8, 16);
        isOfSize(MOST, MOST, 8, 128);
    }

    /** Every method that looks at a slot number must see the same n. */
    private static void isOfSize(int functions, int capacity, int n, int room) {
        String made = " of SuccessTyping(" + functions + ", " + capacity + ")";
        SuccessTyping s = new SuccessTyping(functions, capacity);
        CHECK.due("begin(n - 1, 0)" + made, s.begin(n - 1, 0), true);
        CHECK.due("node(9, n - 1, 0)" + made, s.node(SuccessTyping.KIND_CALL, n - 1, 0), true);
        CHECK.due("node(9, n, 0)" + made, s.node(SuccessTyping.KIND_CALL, n, 0), false);
        CHECK.due("room" + made, Bodies.fill(s) + 1, room);
        CHECK.due("end()" + made, s.end(), SuccessTyping.END_DISCARDED);
        CHECK.due("begin(n, 0)" + made, s.begin(n, 0), false);
        int count = 0;
        for (int f = -3; f <= 12; f++) {
            count += s.atoms(f, 0) == 0 ? 1 : 0;
        }
        CHECK.due("slots" + made, count, n);
        CHECK.due("analyze()" + made, s.analyze(), 0);
    }

    private static void slotsUndefined() {
        for (int f = 0; f < 8; f++) {
            SuccessTyping s = new SuccessTyping(8, 16);
            CHECK.due("arity(" + f + ")", s.arity(f), -1);
            CHECK.due("bodySize(" + f + ")", s.bodySize(f), -1);
            CHECK.due("nodeAt(" + f + ", 0)", s.nodeAt(f, 0), -1);
            CHECK.due("run(" + f + ", 0, 0)", s.run(f, 0, 0), SuccessTyping.RUN_REFUSED);
            CHECK.due("begin(" + f + ", 2)", s.begin(f, 2), true);
        }
    }

    private static void noneBuilding() {
        SuccessTyping s = new SuccessTyping(8, 16);
        CHECK.due("building()", s.building(), -1);
        CHECK.due("pending()", s.pending(), 0);
        CHECK.due("node(0, 1, 0)", s.node(SuccessTyping.KIND_INT, 1, 0), false);
        CHECK.due("end()", s.end(), SuccessTyping.END_NOT_BUILDING);
    }

    private static void poolEmpty() {
        for (int room : new int[] {16, 128}) {
            SuccessTyping s = new SuccessTyping(1, room);
            s.begin(0, 0);
            CHECK.due("nodes that find room", Bodies.fill(s), room);
        }
    }

    private static void summariesEmpty() {
        SuccessTyping s = new SuccessTyping(8, 128);
        for (int f = 0; f < 8; f++) {
            CHECK.allEmpty(s, f);
        }
    }

    private static void notAnalyzed() {
        CHECK.due("analyzed()", new SuccessTyping(1, 16).analyzed(), false);
        CHECK.due("analyzed()", new SuccessTyping(8, 128).analyzed(), false);
    }

    private static void resultZero() {
        CHECK.due("result()", new SuccessTyping(1, 16).result(), 0);
        CHECK.due("result()", new SuccessTyping(8, 128).result(), 0);
    }

    private static void objectsAreApart() {
        SuccessTyping one = new SuccessTyping(2, 16);
        SuccessTyping two = new SuccessTyping(2, 16);
        String before = Snapshot.of(two);
        Bodies.define(CHECK, one, 0, 1, "v0 i1 +");
        one.analyze();
        one.run(0, 5, 0);
        CHECK.due("the other object", Snapshot.of(two), before);
    }
}
