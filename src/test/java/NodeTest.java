import java.util.function.Supplier;

/** Promise 3: node, and what it takes. NodeRefusalTest tells what it refuses. */
public final class NodeTest {
    private static final Check CHECK = new Check();
    private static final int LEAST = Integer.MIN_VALUE;
    private static final int MOST = Integer.MAX_VALUE;

    public static void main(String[] args) {
        CHECK.sentence("A CALL may name any slot in 0..n-1, whatever its state, including the slot"
            + " being built.", NodeTest::callsOfAnySlot);
        CHECK.sentence("the children are the last pending subtrees", NodeTest::lastPending);
        CHECK.sentence("in stored order", NodeTest::storedOrder);
        CHECK.sentence("and they stop being pending", NodeTest::stopPending);
        CHECK.sentence("the node is stored with its used operands", NodeTest::usedOperands);
        CHECK.sentence("and 0 for unused ones", NodeTest::unusedOperands);
        CHECK.sentence("b is stored as 0 for INT, ATOM and VAR.", NodeTest::secondOperandOfLeaves);
        CHECK.sentence("and becomes pending", NodeTest::becomesPending);
        CHECK.sentence("bodySize grows by 1, and pending() changes by 1 minus the number of"
            + " children; the call answers true", NodeTest::grows);
        CHECK.sentence("Nothing else changes.", NodeTest::leavesTheRest);
        CHECK.sentence("Body node 0 is stored first, and the last node is the root.",
            NodeTest::firstAndRoot);
        CHECK.sentence("The depth of a node is 1 if it has no children", NodeTest::depthOfLeaves);
        CHECK.sentence("otherwise it is 1 plus the greatest depth of its children.",
            NodeTest::depthOfParents);
        CHECK.finish();
    }

    private static void taken(SuccessTyping s, int kind, int a, int b, int pending) {
        String call = "node(" + kind + ", " + a + ", " + b + ")";
        int size = s.bodySize(s.building());
        CHECK.due(call, s.node(kind, a, b), true);
        CHECK.due("pending() after " + call, s.pending(), pending);
        CHECK.due("bodySize after " + call, s.bodySize(s.building()), size + 1);
    }

    private static SuccessTyping begun(int arity, String nodes) {
        SuccessTyping s = new SuccessTyping(8, 128);
        s.begin(5, arity);
        if (!nodes.isEmpty()) {
            Bodies.nodes(CHECK, s, nodes);
        }
        return s;
    }

    private static void callsOfAnySlot() {
        for (int n : new int[] {3, 8}) {
            SuccessTyping s = new SuccessTyping(n, 128);
            Bodies.define(CHECK, s, 0, 2, "v0");
            s.begin(1, 0);
            s.end();
            s.begin(2, 1);
            for (int g = 0; g < n; g++) {
                for (int k = 0; k <= 2; k++) {
                    Bodies.nodes(CHECK, s, "i1 i2 c" + g + "/" + k);
                }
            }
        }
    }

    private static void lastPending() {
        SuccessTyping s = new SuccessTyping(2, 64);
        Bodies.define(CHECK, s, 0, 0, "i50 i30 i7 - i1 + -");
        CHECK.run(s, 0, 0, 0, SuccessTyping.RUN_OK, 26);
        Bodies.define(CHECK, s, 1, 2, "v0 v1 i0 < i1 i2 if i3 if");
        CHECK.run(s, 1, 1001, -5, SuccessTyping.RUN_OK, 1);
        CHECK.run(s, 1, 1001, 5, SuccessTyping.RUN_OK, 2);
        CHECK.run(s, 1, 1000, 5, SuccessTyping.RUN_OK, 3);
    }

    private static void storedOrder() {
        SuccessTyping s = new SuccessTyping(5, 64);
        Bodies.define(CHECK, s, 0, 2, "v0 v1 -");
        Bodies.define(CHECK, s, 1, 2, "v0 v1 <");
        Bodies.define(CHECK, s, 2, 1, "v0 i10 i20 if");
        Bodies.define(CHECK, s, 3, 2, "v0 v1 c0/2");
        CHECK.run(s, 0, 9, 2, SuccessTyping.RUN_OK, 7);
        CHECK.run(s, 1, 9, 2, SuccessTyping.RUN_OK, 1000);
        CHECK.run(s, 1, 2, 9, SuccessTyping.RUN_OK, 1001);
        CHECK.run(s, 2, 1001, 0, SuccessTyping.RUN_OK, 10);
        CHECK.run(s, 2, 1000, 0, SuccessTyping.RUN_OK, 20);
        CHECK.run(s, 3, 9, 2, SuccessTyping.RUN_OK, 7);
    }

    private static void stopPending() {
        SuccessTyping s = begun(0, "i1 i2 +");
        CHECK.due("node(3, 0, 0) without a second subtree", s.node(3, 0, 0), false);
        s = begun(0, "a1 i2 i3 if");
        CHECK.due("node(6, 0, 0) without a second subtree", s.node(6, 0, 0), false);
        s = begun(0, "i1 i2 c0/2");
        CHECK.due("node(9, 0, 2) without a second subtree", s.node(9, 0, 2), false);
        s = begun(0, "i1 int?");
        CHECK.due("node(5, 0, 0) without a second subtree", s.node(5, 0, 0), false);
        CHECK.due("end()", s.end(), 5);
    }

    private static int stored(int kind, int a, int b) {
        return kind * 1024 + (a + 128) * 4 + b;
    }

    private static void usedOperands() {
        for (int c = -99; c <= 99; c++) {
            SuccessTyping s = begun(0, "i" + c);
            CHECK.due("INT " + c, s.nodeAt(5, 0), stored(0, c, 0));
        }
        for (int a = 0; a <= 7; a++) {
            SuccessTyping s = begun(0, "a" + a);
            CHECK.due("ATOM " + a, s.nodeAt(5, 0), stored(1, a, 0));
        }
        for (int a = 0; a <= 1; a++) {
            SuccessTyping s = begun(2, "v" + a);
            CHECK.due("VAR " + a, s.nodeAt(5, 0), stored(2, a, 0));
        }
        for (int g = 0; g <= 7; g++) {
            for (int k = 0; k <= 2; k++) {
                SuccessTyping s = begun(0, "i1 i2 c" + g + "/" + k);
                CHECK.due("CALL " + g + " " + k, s.nodeAt(5, 2), stored(9, g, k));
            }
        }
    }

    private static void unusedOperands() {
        int[] odd = {LEAST, -1000, -129, -128, -1, 1, 3, 127, 128, 1024, MOST};
        for (int kind = SuccessTyping.KIND_ADD; kind <= SuccessTyping.KIND_IF; kind++) {
            for (int operand : odd) {
                SuccessTyping s = begun(0, "i1 i2 i3");
                CHECK.due("node of kind " + kind, s.node(kind, operand, 0), true);
                CHECK.due("a of kind " + kind, s.nodeAt(5, 3), stored(kind, 0, 0));
                s = begun(0, "i1 i2 i3");
                CHECK.due("node of kind " + kind, s.node(kind, 0, operand), true);
                CHECK.due("b of kind " + kind, s.nodeAt(5, 3), stored(kind, 0, 0));
            }
        }
    }

    private static void secondOperandOfLeaves() {
        for (int operand : new int[] {LEAST, -1, 1, 2, 3, 4, MOST}) {
            SuccessTyping s = begun(2, "");
            taken(s, SuccessTyping.KIND_INT, 7, operand, 1);
            taken(s, SuccessTyping.KIND_ATOM, 7, operand, 2);
            taken(s, SuccessTyping.KIND_VAR, 1, operand, 3);
            CHECK.due("INT with b " + operand, s.nodeAt(5, 0), stored(0, 7, 0));
            CHECK.due("ATOM with b " + operand, s.nodeAt(5, 1), stored(1, 7, 0));
            CHECK.due("VAR with b " + operand, s.nodeAt(5, 2), stored(2, 1, 0));
        }
    }

    private static void becomesPending() {
        String[] wholes = {"i1", "a1", "v0", "i1 i2 +", "i1 i2 -", "i1 i2 <", "i1 i2 =", "i1 int?",
            "a1 i2 i3 if", "c0/0", "i1 c0/1", "i1 i2 c0/2"};
        for (String whole : wholes) {
            SuccessTyping s = begun(1, whole);
            CHECK.due("pending() after '" + whole + "'", s.pending(), 1);
            CHECK.due("end() of '" + whole + "'", s.end(), 5);
        }
    }

    private static void grows() {
        SuccessTyping s = begun(1, "");
        taken(s, SuccessTyping.KIND_INT, 1, 0, 1);
        taken(s, SuccessTyping.KIND_ATOM, 1, 0, 2);
        taken(s, SuccessTyping.KIND_VAR, 0, 0, 3);
        taken(s, SuccessTyping.KIND_CALL, 0, 0, 4);
        taken(s, SuccessTyping.KIND_CALL, 0, 1, 4);
        taken(s, SuccessTyping.KIND_CALL, 0, 2, 3);
        taken(s, SuccessTyping.KIND_ISINT, 0, 0, 3);
        taken(s, SuccessTyping.KIND_IF, 0, 0, 1);
        int[] pairs = {SuccessTyping.KIND_ADD, SuccessTyping.KIND_SUB, SuccessTyping.KIND_LESS,
            SuccessTyping.KIND_EQ};
        for (int kind : pairs) {
            taken(s, SuccessTyping.KIND_INT, 1, 0, 2);
            taken(s, kind, 0, 0, 1);
        }
    }

    private static void leavesTheRest() {
        SuccessTyping s = new SuccessTyping(3, 64);
        Bodies.define(CHECK, s, 0, 1, "v0 i1 +");
        s.analyze();
        s.run(0, 4, 0);
        String slots = Snapshot.slots(s, 0, 2);
        s.begin(1, 2);
        for (String word : "v0 v1 c0/1 < i1 int? a0 if".split(" ")) {
            Bodies.nodes(CHECK, s, word);
            CHECK.due("the other slots", Snapshot.slots(s, 0, 2), slots);
            CHECK.allEmpty(s, 1);
            CHECK.due("analyzed()", s.analyzed(), true);
            CHECK.due("result()", s.result(), 5);
            CHECK.due("building()", s.building(), 1);
            CHECK.due("arity(1)", s.arity(1), 2);
        }
        s = begun(0, "i1");
        CHECK.due("analyzed()", s.analyzed(), false);
    }

    private static void firstAndRoot() {
        SuccessTyping s = new SuccessTyping(2, 16);
        Bodies.define(CHECK, s, 0, 0, "i3 i4 + int?");
        CHECK.due("nodeAt(0, 0)", s.nodeAt(0, 0), stored(0, 3, 0));
        CHECK.due("nodeAt(0, 1)", s.nodeAt(0, 1), stored(0, 4, 0));
        CHECK.due("nodeAt(0, 2)", s.nodeAt(0, 2), stored(3, 0, 0));
        CHECK.due("nodeAt(0, 3)", s.nodeAt(0, 3), stored(7, 0, 0));
        CHECK.run(s, 0, 0, 0, SuccessTyping.RUN_OK, 1001);
        Bodies.define(CHECK, s, 1, 0, "i5");
        CHECK.due("nodeAt(1, 0)", s.nodeAt(1, 0), stored(0, 5, 0));
        CHECK.run(s, 1, 0, 0, SuccessTyping.RUN_OK, 5);
    }

    /** How many queries fit on top of a subtree tells its depth. */
    private static int depth(Supplier<SuccessTyping> made) {
        SuccessTyping s = made.get();
        int count = 0;
        while (count < 100 && s.node(SuccessTyping.KIND_ISINT, 0, 0)) {
            count++;
        }
        return SuccessTyping.MAX_DEPTH - count;
    }

    private static void isDeep(String nodes, int due) {
        CHECK.due("depth of '" + nodes + "'", depth(() -> begun(2, nodes)), due);
    }

    private static void depthOfLeaves() {
        for (String leaf : new String[] {"i1", "a1", "v1", "c5/0"}) {
            isDeep(leaf, 1);
            // A leaf stands beside a deep subtree, not on it.
            isDeep(Bodies.chain(10) + " " + leaf, 1);
        }
    }

    private static void depthOfParents() {
        for (int d = 1; d <= 9; d++) {
            String deep = Bodies.chain(d);
            isDeep(deep, d);
            isDeep(deep + " int?", d + 1);
            isDeep(deep + " c0/1", d + 1);
            for (String pair : new String[] {"+", "-", "<", "=", "c0/2"}) {
                isDeep(deep + " i1 " + pair, d + 1);
                isDeep("i1 " + deep + " " + pair, d + 1);
            }
            isDeep(deep + " i1 i1 if", d + 1);
            isDeep("i1 " + deep + " i1 if", d + 1);
            isDeep("i1 i1 " + deep + " if", d + 1);
        }
        isDeep("i1 int? int? i1 int? +", 4);
        isDeep(Bodies.chain(4) + " " + Bodies.chain(4) + " +", 5);
    }
}
