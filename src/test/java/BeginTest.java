/** Promise 2: begin. */
public final class BeginTest {
    private static final Check CHECK = new Check();

    public static void main(String[] args) {
        startsEachArity();
        refusesWrongArguments();
        refusesWhileBuilding();
        refusesDefinedSlot();
        takesDiscardedSlotAgain();
        leavesTheRestAlone();
        CHECK.finish();
    }

    private static void startsEachArity() {
        for (int arity = 0; arity <= 2; arity++) {
            SuccessTyping s = new SuccessTyping(3, 16);
            CHECK.due("begin(2, " + arity + ")", s.begin(2, arity), true);
            CHECK.due("building()", s.building(), 2);
            CHECK.due("bodySize(2)", s.bodySize(2), 0);
            CHECK.due("arity(2)", s.arity(2), arity);
            CHECK.due("pending()", s.pending(), 0);
        }
    }

    private static void refused(SuccessTyping s, int f, int arity) {
        String before = Snapshot.of(s);
        String call = "begin(" + f + ", " + arity + ")";
        CHECK.due(call, s.begin(f, arity), false);
        CHECK.due("the object after " + call, Snapshot.of(s), before);
    }

    private static void refusesWrongArguments() {
        SuccessTyping s = new SuccessTyping(3, 16);
        int[] slots = {Integer.MIN_VALUE, -1, 3, 4, 8, Integer.MAX_VALUE};
        for (int f : slots) {
            refused(s, f, 0);
        }
        int[] arities = {Integer.MIN_VALUE, -1, 3, 4, Integer.MAX_VALUE};
        for (int arity : arities) {
            refused(s, 0, arity);
        }
    }

    private static void refusesWhileBuilding() {
        SuccessTyping s = new SuccessTyping(3, 16);
        s.begin(1, 1);
        Bodies.nodes(CHECK, s, "v0 i2");
        refused(s, 0, 0);
        refused(s, 1, 1);
        refused(s, 1, 2);
        refused(s, 5, 1);
    }

    private static void refusesDefinedSlot() {
        SuccessTyping s = new SuccessTyping(3, 16);
        Bodies.define(CHECK, s, 0, 1, "v0");
        refused(s, 0, 1);
        refused(s, 0, 2);
        CHECK.due("begin(1, 2)", s.begin(1, 2), true);
    }

    private static void takesDiscardedSlotAgain() {
        SuccessTyping s = new SuccessTyping(1, 16);
        CHECK.due("begin(0, 2)", s.begin(0, 2), true);
        Bodies.nodes(CHECK, s, "v0 v1");
        CHECK.due("end()", s.end(), SuccessTyping.END_DISCARDED);
        CHECK.due("begin(0, 1)", s.begin(0, 1), true);
        CHECK.due("arity(0)", s.arity(0), 1);
        CHECK.due("bodySize(0)", s.bodySize(0), 0);
        CHECK.due("pending()", s.pending(), 0);
    }

    private static void leavesTheRestAlone() {
        SuccessTyping s = new SuccessTyping(3, 16);
        Bodies.define(CHECK, s, 0, 1, "v0 i1 +");
        s.analyze();
        s.run(0, 4, 0);
        CHECK.due("begin(2, 1)", s.begin(2, 1), true);
        CHECK.due("analyzed()", s.analyzed(), true);
        CHECK.due("result()", s.result(), 5);
        CHECK.ints(s, 0, 0);
        CHECK.ints(s, 0, 2);
        CHECK.empty(s, 2, 2);
        CHECK.due("bodySize(0)", s.bodySize(0), 3);
        CHECK.due("arity(0)", s.arity(0), 1);
        CHECK.due("arity(1)", s.arity(1), -1);
    }
}
