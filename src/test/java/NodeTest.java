/** Promise 3: node. */
public final class NodeTest {
    private static final Check CHECK = new Check();
    private static final int LEAST = Integer.MIN_VALUE;
    private static final int MOST = Integer.MAX_VALUE;

    public static void main(String[] args) {
        refusesWithoutBuilding();
        looksAtOperands();
        looksAtVariables();
        looksAtCalls();
        wantsChildren();
        takesTheLastPendingAsChildren();
        storesZeroForUnused();
        keepsToCapacity();
        keepsToDepth();
        leavesTheRestAlone();
        CHECK.finish();
    }

    private static void refused(SuccessTyping s, int kind, int a, int b) {
        String before = Snapshot.of(s);
        String call = "node(" + kind + ", " + a + ", " + b + ")";
        CHECK.due(call, s.node(kind, a, b), false);
        CHECK.due("the object after " + call, Snapshot.of(s), before);
    }

    private static void taken(SuccessTyping s, int kind, int a, int b, int pending) {
        String call = "node(" + kind + ", " + a + ", " + b + ")";
        int size = s.bodySize(s.building());
        CHECK.due(call, s.node(kind, a, b), true);
        CHECK.due("pending() after " + call, s.pending(), pending);
        CHECK.due("bodySize after " + call, s.bodySize(s.building()), size + 1);
    }

    private static void refusesWithoutBuilding() {
        SuccessTyping s = new SuccessTyping(2, 16);
        refused(s, SuccessTyping.KIND_INT, 1, 0);
        Bodies.define(CHECK, s, 0, 0, "i1");
        refused(s, SuccessTyping.KIND_INT, 1, 0);
        refused(s, SuccessTyping.KIND_ISINT, 0, 0);
        s.begin(1, 0);
        s.end();
        refused(s, SuccessTyping.KIND_INT, 1, 0);
    }

    private static void looksAtOperands() {
        SuccessTyping s = new SuccessTyping(2, 128);
        s.begin(0, 2);
        Bodies.nodes(CHECK, s, "i0 i0 i0");
        for (int kind : new int[] {LEAST, -1, 10, 11, MOST}) {
            refused(s, kind, 0, 0);
        }
        for (int a : new int[] {LEAST, -1000, -100, 100, 1000, 1001, MOST}) {
            refused(s, SuccessTyping.KIND_INT, a, 0);
        }
        for (int a : new int[] {LEAST, -1, 8, 1000, MOST}) {
            refused(s, SuccessTyping.KIND_ATOM, a, 0);
        }
        taken(s, SuccessTyping.KIND_INT, -99, MOST, 4);
        taken(s, SuccessTyping.KIND_INT, 99, LEAST, 5);
        taken(s, SuccessTyping.KIND_ATOM, 0, -1, 6);
        taken(s, SuccessTyping.KIND_ATOM, 7, 3, 7);
        taken(s, SuccessTyping.KIND_ADD, LEAST, MOST, 6);
        taken(s, SuccessTyping.KIND_SUB, MOST, LEAST, 5);
        taken(s, SuccessTyping.KIND_LESS, -1000, 1000, 4);
        taken(s, SuccessTyping.KIND_EQ, 1000, -1000, 3);
        taken(s, SuccessTyping.KIND_ISINT, LEAST, LEAST, 3);
        taken(s, SuccessTyping.KIND_IF, MOST, MOST, 1);
    }

    private static void looksAtVariables() {
        for (int arity = 0; arity <= 2; arity++) {
            SuccessTyping s = new SuccessTyping(1, 16);
            s.begin(0, arity);
            refused(s, SuccessTyping.KIND_VAR, -1, 0);
            refused(s, SuccessTyping.KIND_VAR, arity, 0);
            refused(s, SuccessTyping.KIND_VAR, LEAST, 0);
            refused(s, SuccessTyping.KIND_VAR, MOST, 0);
            for (int a = 0; a < arity; a++) {
                taken(s, SuccessTyping.KIND_VAR, a, 9, a + 1);
            }
        }
    }

    private static void looksAtCalls() {
        SuccessTyping s = new SuccessTyping(3, 64);
        Bodies.define(CHECK, s, 0, 2, "v0");
        s.begin(1, 0);
        Bodies.nodes(CHECK, s, "i1 i2 i3 i4");
        for (int a : new int[] {LEAST, -1, 3, 8, MOST}) {
            refused(s, SuccessTyping.KIND_CALL, a, 0);
        }
        for (int b : new int[] {LEAST, -1, 3, 4, MOST}) {
            refused(s, SuccessTyping.KIND_CALL, 0, b);
        }
        taken(s, SuccessTyping.KIND_CALL, 0, 1, 4);
        taken(s, SuccessTyping.KIND_CALL, 1, 0, 5);
        taken(s, SuccessTyping.KIND_CALL, 2, 2, 4);
    }

    private static void wantsChildren() {
        int[] kinds = {SuccessTyping.KIND_ADD, SuccessTyping.KIND_SUB, SuccessTyping.KIND_LESS,
            SuccessTyping.KIND_EQ, SuccessTyping.KIND_ISINT, SuccessTyping.KIND_IF};
        int[] wanted = {2, 2, 2, 2, 1, 3};
        for (int i = 0; i < kinds.length; i++) {
            wantsChildren(kinds[i], 0, wanted[i]);
        }
        for (int b = 0; b <= 2; b++) {
            wantsChildren(SuccessTyping.KIND_CALL, b, b);
        }
    }

    private static void wantsChildren(int kind, int b, int wanted) {
        SuccessTyping s = new SuccessTyping(1, 16);
        s.begin(0, 0);
        for (int i = 0; i < wanted; i++) {
            refused(s, kind, 0, b);
            s.node(SuccessTyping.KIND_ATOM, i, 0);
        }
        taken(s, kind, 0, b, 1);
    }

    private static void takesTheLastPendingAsChildren() {
        SuccessTyping s = new SuccessTyping(2, 64);
        Bodies.define(CHECK, s, 0, 0, "i50 i30 i7 - i1 + -");
        CHECK.run(s, 0, 0, 0, SuccessTyping.RUN_OK, 26);
        Bodies.define(CHECK, s, 1, 2, "v0 v1 i0 < i1 i2 if i3 if");
        CHECK.run(s, 1, 1001, -5, SuccessTyping.RUN_OK, 1);
        CHECK.run(s, 1, 1001, 5, SuccessTyping.RUN_OK, 2);
        CHECK.run(s, 1, 1000, 5, SuccessTyping.RUN_OK, 3);
    }

    private static void storesZeroForUnused() {
        SuccessTyping s = new SuccessTyping(8, 64);
        s.begin(7, 1);
        s.node(SuccessTyping.KIND_INT, -99, 3);
        s.node(SuccessTyping.KIND_ATOM, 7, 2);
        s.node(SuccessTyping.KIND_VAR, 0, 1);
        s.node(SuccessTyping.KIND_CALL, 5, 1);
        s.node(SuccessTyping.KIND_EQ, 9, 9);
        s.node(SuccessTyping.KIND_ISINT, 9, 9);
        CHECK.due("INT", s.nodeAt(7, 0), 29 * 4);
        CHECK.due("ATOM", s.nodeAt(7, 1), 1024 + 135 * 4);
        CHECK.due("VAR", s.nodeAt(7, 2), 2 * 1024 + 128 * 4);
        CHECK.due("CALL", s.nodeAt(7, 3), 9 * 1024 + 133 * 4 + 1);
        CHECK.due("EQ", s.nodeAt(7, 4), 6 * 1024 + 128 * 4);
        CHECK.due("ISINT", s.nodeAt(7, 5), 7 * 1024 + 128 * 4);
    }

    private static void keepsToCapacity() {
        SuccessTyping s = new SuccessTyping(3, 20);
        Bodies.define(CHECK, s, 0, 0, "i1 i2 + i3 +");
        s.begin(1, 0);
        for (int i = 0; i < 15; i++) {
            taken(s, SuccessTyping.KIND_INT, i, 0, i + 1);
        }
        refused(s, SuccessTyping.KIND_INT, 1, 0);
        refused(s, SuccessTyping.KIND_ADD, 0, 0);
        refused(s, SuccessTyping.KIND_CALL, 0, 0);
        CHECK.due("end()", s.end(), SuccessTyping.END_DISCARDED);
        s.begin(2, 0);
        for (int i = 0; i < 15; i++) {
            taken(s, SuccessTyping.KIND_INT, i, 0, i + 1);
        }
        refused(s, SuccessTyping.KIND_INT, 1, 0);
    }

    private static void keepsToDepth() {
        SuccessTyping s = new SuccessTyping(1, 64);
        s.begin(0, 0);
        Bodies.nodes(CHECK, s, "i1 int? int? int? int? int? int? int? int?");
        Bodies.nodes(CHECK, s, "a1 i2 if");
        Bodies.nodes(CHECK, s, "i5");
        refused(s, SuccessTyping.KIND_ADD, 0, 0);
        refused(s, SuccessTyping.KIND_CALL, 0, 2);
        taken(s, SuccessTyping.KIND_ISINT, 0, 0, 2);
        refused(s, SuccessTyping.KIND_EQ, 0, 0);
        taken(s, SuccessTyping.KIND_CALL, 0, 0, 3);
        refused(s, SuccessTyping.KIND_IF, 0, 0);
        taken(s, SuccessTyping.KIND_EQ, 0, 0, 2);
        deepestIsTheMiddleChild();
    }

    private static void deepestIsTheMiddleChild() {
        SuccessTyping s = new SuccessTyping(1, 64);
        s.begin(0, 0);
        Bodies.nodes(CHECK, s, "a1 i1 int? int? int? int? int? int? int? int? int? i2");
        refused(s, SuccessTyping.KIND_IF, 0, 0);
        SuccessTyping t = new SuccessTyping(1, 64);
        t.begin(0, 0);
        Bodies.nodes(CHECK, t, "a1 i1 int? int? int? int? int? int? int? int? i2");
        taken(t, SuccessTyping.KIND_IF, 0, 0, 1);
        refused(t, SuccessTyping.KIND_ISINT, 0, 0);
    }

    private static void leavesTheRestAlone() {
        SuccessTyping s = new SuccessTyping(3, 64);
        Bodies.define(CHECK, s, 0, 1, "v0 i1 +");
        s.analyze();
        s.run(0, 4, 0);
        s.begin(1, 2);
        Bodies.nodes(CHECK, s, "v0 v1 c0/1 <");
        CHECK.due("analyzed()", s.analyzed(), true);
        CHECK.due("result()", s.result(), 5);
        CHECK.ints(s, 0, 2);
        CHECK.empty(s, 1, 2);
        CHECK.due("bodySize(0)", s.bodySize(0), 3);
        CHECK.due("building()", s.building(), 1);
        CHECK.due("arity(1)", s.arity(1), 2);
    }
}
