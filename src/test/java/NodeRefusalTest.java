import java.util.function.Supplier;

/** Promise 3: what node refuses, and that a refused call changes nothing. */
public final class NodeRefusalTest {
    private static final Check CHECK = new Check();
    private static final int LEAST = Integer.MIN_VALUE;
    private static final int MOST = Integer.MAX_VALUE;
    private static final int[] PAIRS = {SuccessTyping.KIND_ADD, SuccessTyping.KIND_SUB,
        SuccessTyping.KIND_LESS, SuccessTyping.KIND_EQ};

    public static void main(String[] args) {
        CHECK.sentence("refused if 1. no slot is BUILDING", NodeRefusalTest::notBuilding);
        CHECK.sentence("refused if 2. kind is not in 0..9", NodeRefusalTest::kindOutside);
        CHECK.sentence("INT needs a in -99..99", NodeRefusalTest::integers);
        CHECK.sentence("ATOM needs a in 0..7", NodeRefusalTest::atoms);
        CHECK.sentence("VAR needs a in 0..arity-1 of the BUILDING slot", NodeRefusalTest::variables);
        CHECK.sentence("so a slot of arity 0 accepts no VAR", NodeRefusalTest::noVariables);
        CHECK.sentence("CALL needs a in 0..n-1", NodeRefusalTest::calledSlots);
        CHECK.sentence("and b in 0..2", NodeRefusalTest::callArities);
        CHECK.sentence("other kinds place no demand on a or b", NodeRefusalTest::freeOperands);
        CHECK.sentence("refused if 4. pending() is less than the kind's number of children",
            NodeRefusalTest::tooFewPending);
        CHECK.sentence("(k = b for CALL)", NodeRefusalTest::tooFewArguments);
        CHECK.sentence("refused if 5. the pool already holds capacity nodes",
            NodeRefusalTest::poolFull);
        CHECK.sentence("(counting all bodies)", NodeRefusalTest::poolOfAllBodies);
        CHECK.sentence("The nodes of all bodies together never exceed capacity.",
            NodeRefusalTest::neverAboveCapacity);
        CHECK.sentence("refused if 6. the new node's depth would exceed MAX_DEPTH",
            NodeRefusalTest::tooDeep);
        CHECK.sentence("in this order", NodeRefusalTest::severalFaults);
        CHECK.finish();
    }

    private static void refused(Supplier<SuccessTyping> made, int kind, int a, int b) {
        String call = "node(" + kind + ", " + a + ", " + b + ")";
        Trace.none(CHECK, call, made, s -> CHECK.due(call, s.node(kind, a, b), false));
    }

    private static void taken(Supplier<SuccessTyping> made, int kind, int a, int b) {
        CHECK.due("node(" + kind + ", " + a + ", " + b + ")", made.get().node(kind, a, b), true);
    }

    /** Slot 0 is DEFINED, inferred and has been run; slot 2 of n is BUILDING with these nodes. */
    private static SuccessTyping begun(int n, int capacity, int arity, String nodes) {
        SuccessTyping s = new SuccessTyping(n, capacity);
        Bodies.define(CHECK, s, 0, 2, "v0 v1 -");
        s.analyze();
        s.run(0, 9, 2);
        s.begin(2, arity);
        if (!nodes.isEmpty()) {
            Bodies.nodes(CHECK, s, nodes);
        }
        return s;
    }

    private static Supplier<SuccessTyping> with(int arity, String nodes) {
        return () -> begun(4, 64, arity, nodes);
    }

    private static SuccessTyping afterEnd() {
        SuccessTyping s = begun(4, 64, 1, "v0 i1 +");
        CHECK.due("end()", s.end(), 2);
        return s;
    }

    private static SuccessTyping afterDiscard() {
        SuccessTyping s = begun(4, 64, 1, "v0 i1 i2");
        CHECK.due("end()", s.end(), SuccessTyping.END_DISCARDED);
        return s;
    }

    private static void notBuilding() {
        for (int kind = 0; kind <= 9; kind++) {
            refused(() -> new SuccessTyping(4, 64), kind, 0, 0);
            refused(NodeRefusalTest::afterEnd, kind, 0, 0);
            refused(NodeRefusalTest::afterDiscard, kind, 0, 0);
        }
    }

    private static void kindOutside() {
        for (int kind : new int[] {LEAST, -1024, -10, -9, -2, -1, 10, 11, 16, 1024, MOST}) {
            refused(with(1, "i1 i2 i3"), kind, 0, 0);
            refused(with(1, ""), kind, 1, 1);
        }
        for (int kind = 0; kind <= 9; kind++) {
            taken(with(1, "i1 i2 i3"), kind, 0, 0);
        }
    }

    private static void integers() {
        for (int a : new int[] {LEAST, -1000, -101, -100, 100, 101, 999, 1000, 1001, MOST}) {
            refused(with(2, "i1"), SuccessTyping.KIND_INT, a, 0);
        }
        for (int a : new int[] {-99, -98, -1, 0, 1, 98, 99}) {
            taken(with(2, "i1"), SuccessTyping.KIND_INT, a, 0);
        }
    }

    private static void atoms() {
        for (int a : new int[] {LEAST, -99, -2, -1, 8, 9, 99, 1000, 1007, MOST}) {
            refused(with(2, "i1"), SuccessTyping.KIND_ATOM, a, 0);
        }
        for (int a = 0; a <= 7; a++) {
            taken(with(2, "i1"), SuccessTyping.KIND_ATOM, a, 0);
        }
    }

    private static void variables() {
        for (int arity = 1; arity <= 2; arity++) {
            for (int a : new int[] {LEAST, -2, -1, arity, arity + 1, 3, 99, MOST}) {
                refused(with(arity, "i1"), SuccessTyping.KIND_VAR, a, 0);
            }
            for (int a = 0; a < arity; a++) {
                taken(with(arity, "i1"), SuccessTyping.KIND_VAR, a, 0);
            }
        }
    }

    /** The slot that is built has arity 0, though another one has parameters. */
    private static void noVariables() {
        for (int a : new int[] {LEAST, -1, 0, 1, 2, MOST}) {
            refused(with(0, ""), SuccessTyping.KIND_VAR, a, 0);
        }
    }

    private static void calledSlots() {
        for (int n = 3; n <= 8; n++) {
            int slots = n;
            Supplier<SuccessTyping> made = () -> begun(slots, 64, 1, "i1 i2");
            for (int a : new int[] {LEAST, -2, -1, n, n + 1, 8, 9, 99, MOST}) {
                refused(made, SuccessTyping.KIND_CALL, a, 0);
                refused(made, SuccessTyping.KIND_CALL, a, 2);
            }
            for (int a = 0; a < n; a++) {
                taken(made, SuccessTyping.KIND_CALL, a, 0);
                taken(made, SuccessTyping.KIND_CALL, a, 2);
            }
        }
    }

    /** With more subtrees pending than a CALL could ever take, b alone can be what is wrong. */
    private static void callArities() {
        for (int b : new int[] {LEAST, -3, -2, -1, 3, 4, 5, MOST}) {
            refused(with(1, "i1 i2 i3 i4 i5"), SuccessTyping.KIND_CALL, 0, b);
        }
        for (int b = 0; b <= 2; b++) {
            taken(with(1, "i1 i2 i3 i4 i5"), SuccessTyping.KIND_CALL, 0, b);
        }
    }

    private static void freeOperands() {
        int[] odd = {LEAST, -1000, -100, -1, 0, 3, 8, 10, 100, 1000, MOST};
        for (int kind = SuccessTyping.KIND_ADD; kind <= SuccessTyping.KIND_IF; kind++) {
            for (int operand : odd) {
                taken(with(0, "i1 i2 i3"), kind, operand, operand);
                taken(with(0, "i1 i2 i3"), kind, operand, -operand);
            }
        }
        for (int operand : odd) {
            taken(with(1, ""), SuccessTyping.KIND_INT, 5, operand);
            taken(with(1, ""), SuccessTyping.KIND_ATOM, 5, operand);
            taken(with(1, ""), SuccessTyping.KIND_VAR, 0, operand);
        }
    }

    private static void tooFewPending() {
        for (int kind : PAIRS) {
            wants(kind, 0, 2);
        }
        wants(SuccessTyping.KIND_ISINT, 0, 1);
        wants(SuccessTyping.KIND_IF, 0, 3);
    }

    private static void tooFewArguments() {
        for (int k = 0; k <= 2; k++) {
            wants(SuccessTyping.KIND_CALL, k, k);
        }
    }

    private static void wants(int kind, int b, int children) {
        String[] pending = {"", "i1", "i1 a2", "i1 a2 i3", "i1 a2 i3 a4"};
        for (int count = 0; count < pending.length; count++) {
            if (count < children) {
                refused(with(0, pending[count]), kind, 0, b);
            } else {
                taken(with(0, pending[count]), kind, 0, b);
            }
        }
        // Nodes that are children already are not pending any more.
        if (children > 1) {
            refused(with(0, "i1 i2 + i3 + i4 +"), kind, 0, b);
        }
    }

    /** One body with as many nodes as are asked for, all of them pending. */
    private static SuccessTyping leaves(int capacity, int count) {
        SuccessTyping s = new SuccessTyping(4, capacity);
        s.begin(2, 1);
        for (int i = 0; i < count; i++) {
            CHECK.due("node " + i, s.node(SuccessTyping.KIND_ATOM, i % 8, 0), true);
        }
        return s;
    }

    private static void poolFull() {
        for (int capacity : new int[] {16, 17, 50, 127, 128}) {
            for (int kind = 0; kind <= 9; kind++) {
                refused(() -> leaves(capacity, capacity), kind, 0, 0);
                taken(() -> leaves(capacity, capacity - 1), kind, 0, 0);
            }
            refused(() -> leaves(capacity, capacity), SuccessTyping.KIND_CALL, 0, 2);
            taken(() -> leaves(capacity, capacity - 1), SuccessTyping.KIND_CALL, 0, 2);
        }
    }

    /** Two DEFINED bodies of five and one nodes, and a discarded one that counts no more. */
    private static SuccessTyping threeBodies(int count) {
        SuccessTyping s = new SuccessTyping(4, 20);
        Bodies.define(CHECK, s, 3, 0, "i1 i2 + i3 +");
        s.begin(1, 0);
        Bodies.fill(s);
        CHECK.due("end()", s.end(), SuccessTyping.END_DISCARDED);
        Bodies.define(CHECK, s, 0, 0, "i1");
        s.begin(1, 1);
        for (int i = 0; i < count; i++) {
            CHECK.due("node " + i, s.node(SuccessTyping.KIND_INT, i, 0), true);
        }
        return s;
    }

    private static void poolOfAllBodies() {
        for (int kind = 0; kind <= 9; kind++) {
            refused(() -> threeBodies(14), kind, 0, 0);
            taken(() -> threeBodies(13), kind, 0, 0);
        }
    }

    private static void neverAboveCapacity() {
        SuccessTyping s = new SuccessTyping(8, 16);
        for (int f = 0; f < 8; f++) {
            s.begin(f, 0);
            Bodies.node(s, "i1");
            Bodies.node(s, "i2");
            Bodies.node(s, "+");
            s.end();
        }
        int held = 0;
        for (int f = 0; f < 8; f++) {
            held += Math.max(0, s.bodySize(f));
        }
        // Five bodies of three nodes and one of one: after those, not even one node finds room.
        CHECK.due("nodes of all bodies", held, 16);
        CHECK.due("bodySize(5)", s.bodySize(5), 1);
        CHECK.due("bodySize(6)", s.bodySize(6), -1);
    }

    private static void tooDeep() {
        deepest(SuccessTyping.KIND_ISINT, 0, "", "");
        deepest(SuccessTyping.KIND_CALL, 1, "", "");
        for (int kind : PAIRS) {
            deepest(kind, 0, "", " i1");
            deepest(kind, 0, "i1 ", "");
        }
        deepest(SuccessTyping.KIND_CALL, 2, "", " i1");
        deepest(SuccessTyping.KIND_CALL, 2, "i1 ", "");
        deepest(SuccessTyping.KIND_IF, 0, "", " i1 i1");
        deepest(SuccessTyping.KIND_IF, 0, "i1 ", " i1");
        deepest(SuccessTyping.KIND_IF, 0, "i1 i1 ", "");
        taken(with(0, Bodies.chain(10)), SuccessTyping.KIND_INT, 1, 0);
        taken(with(0, Bodies.chain(10)), SuccessTyping.KIND_CALL, 0, 0);
        // Only the children count, not what else is pending.
        taken(with(0, Bodies.chain(10) + " i1 i2"), SuccessTyping.KIND_ADD, 0, 0);
        taken(with(0, Bodies.chain(10) + " i1"), SuccessTyping.KIND_CALL, 0, 1);
    }

    private static void deepest(int kind, int b, String before, String after) {
        refused(with(0, before + Bodies.chain(10) + after), kind, 0, b);
        taken(with(0, before + Bodies.chain(9) + after), kind, 0, b);
    }

    /** All refusals answer the same, so the order shows only in that no check trips over another. */
    private static void severalFaults() {
        int[] odd = {LEAST, -1, 8, 100, 128, 1000, MOST};
        for (int operand : odd) {
            refused(() -> new SuccessTyping(4, 16), operand, operand, operand);
            refused(NodeRefusalTest::afterEnd, SuccessTyping.KIND_VAR, operand, 0);
            refused(NodeRefusalTest::afterEnd, SuccessTyping.KIND_CALL, operand, operand);
            refused(() -> leaves(16, 16), operand == 8 ? 10 : operand, operand, operand);
            refused(() -> leaves(128, 128), SuccessTyping.KIND_CALL, operand, operand);
            refused(() -> leaves(128, 128), SuccessTyping.KIND_VAR, operand, 0);
            refused(with(0, ""), SuccessTyping.KIND_CALL, operand, operand);
            refused(with(0, Bodies.chain(10)), SuccessTyping.KIND_CALL, operand, 1);
        }
        refused(with(0, Bodies.chain(10)), SuccessTyping.KIND_IF, 0, 0);
        Supplier<SuccessTyping> full = () -> begun(4, 16, 0, Bodies.chain(10) + " i1 i2 i3");
        refused(full, SuccessTyping.KIND_ISINT, 0, 0);
        refused(full, SuccessTyping.KIND_CALL, 9, 3);
        refused(() -> begun(4, 16, 0, "i1 i2 i3 " + Bodies.chain(10)), SuccessTyping.KIND_IF, 0, 0);
        refused(() -> begun(4, 16, 0, Bodies.chain(10) + " a0 a0 ="), SuccessTyping.KIND_IF, 0, 0);
    }
}
