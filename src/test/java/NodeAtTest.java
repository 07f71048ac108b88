/** Promise 10: nodeAt. */
public final class NodeAtTest {
    private static final Check CHECK = new Check();
    private static final int LEAST = Integer.MIN_VALUE;
    private static final int MOST = Integer.MAX_VALUE;
    private static final String BODY =
        "i-99 i99 + a0 a7 = v0 v1 - c0/0 c2/1 < int? c1/2 i7 i6 if";
    private static final int[] DUE = {29 * 4, 227 * 4, 3 * 1024 + 512, 1024 + 128 * 4,
        1024 + 135 * 4, 6 * 1024 + 512, 2 * 1024 + 128 * 4, 2 * 1024 + 129 * 4, 4 * 1024 + 512,
        9 * 1024 + 128 * 4, 9 * 1024 + 130 * 4 + 1, 5 * 1024 + 512, 7 * 1024 + 512,
        9 * 1024 + 129 * 4 + 2, 135 * 4, 134 * 4, 8 * 1024 + 512};

    public static void main(String[] args) {
        CHECK.sentence("answers node i of slot f's body as kind * 1024 + (a + 128) * 4 + b",
            NodeAtTest::everyKind);
        CHECK.sentence("with the stored a and b.", NodeAtTest::storedOperands);
        CHECK.sentence("This requires f to be BUILDING or DEFINED", NodeAtTest::withBody);
        CHECK.sentence("and 0 <= i < bodySize(f).", NodeAtTest::lastNode);
        CHECK.sentence("-1 otherwise: f UNDEFINED", NodeAtTest::withoutBody);
        CHECK.sentence("including for f outside 0..n-1", NodeAtTest::slotOutside);
        CHECK.sentence("and for negative i", NodeAtTest::negative);
        CHECK.sentence("or too large i.", NodeAtTest::tooLarge);
        CHECK.sentence("Nothing changes.", NodeAtTest::leavesNoTrace);
        CHECK.finish();
    }

    private static SuccessTyping made() {
        SuccessTyping s = new SuccessTyping(4, 64);
        Bodies.define(CHECK, s, 0, 0, "i99");
        Bodies.define(CHECK, s, 3, 1, "v0 i-1 +");
        s.begin(1, 2);
        Bodies.nodes(CHECK, s, BODY);
        return s;
    }

    private static void asks(SuccessTyping s, int f, int i, int due) {
        CHECK.due("nodeAt(" + f + ", " + i + ")", s.nodeAt(f, i), due);
    }

    private static void everyKind() {
        SuccessTyping s = made();
        for (int i = 0; i < DUE.length; i++) {
            asks(s, 1, i, DUE[i]);
        }
        // Each slot has its own node 0, wherever it lies in the pool.
        asks(s, 0, 0, 227 * 4);
        asks(s, 3, 0, 2560);
        asks(s, 3, 1, 127 * 4);
        asks(s, 3, 2, 3584);
    }

    private static void storedOperands() {
        SuccessTyping s = new SuccessTyping(1, 16);
        s.begin(0, 1);
        s.node(SuccessTyping.KIND_INT, 5, 3);
        s.node(SuccessTyping.KIND_VAR, 0, -1);
        s.node(SuccessTyping.KIND_EQ, 7, 2);
        s.node(SuccessTyping.KIND_ISINT, LEAST, MOST);
        asks(s, 0, 0, 133 * 4);
        asks(s, 0, 1, 2 * 1024 + 512);
        asks(s, 0, 2, 6 * 1024 + 512);
        asks(s, 0, 3, 7 * 1024 + 512);
    }

    private static void withBody() {
        SuccessTyping s = new SuccessTyping(2, 16);
        s.begin(1, 0);
        asks(s, 1, 0, -1);
        Bodies.nodes(CHECK, s, "i5");
        asks(s, 1, 0, 133 * 4);
        s.end();
        asks(s, 1, 0, 133 * 4);
        s.analyze();
        s.run(1, 0, 0);
        asks(s, 1, 0, 133 * 4);
    }

    private static void lastNode() {
        SuccessTyping s = made();
        asks(s, 1, s.bodySize(1) - 1, 8 * 1024 + 512);
        asks(s, 1, s.bodySize(1), -1);
        asks(s, 3, 2, 3584);
        // The nodes of the next body follow in the pool, but are not node 3 of this one.
        asks(s, 3, 3, -1);
        asks(s, 0, 1, -1);
        SuccessTyping full = new SuccessTyping(1, 128);
        full.begin(0, 0);
        Bodies.fill(full);
        asks(full, 0, 127, 129 * 4);
        asks(full, 0, 128, -1);
    }

    private static void withoutBody() {
        SuccessTyping s = made();
        for (int i : new int[] {-1, 0, 1, 5, 127}) {
            asks(s, 2, i, -1);
        }
        s.end();
        for (int i : new int[] {-1, 0, 1, 16, 127}) {
            asks(s, 1, i, -1);
        }
    }

    private static void slotOutside() {
        SuccessTyping s = made();
        for (int f : new int[] {LEAST, -2, -1, 4, 5, 8, 9, MOST}) {
            for (int i : new int[] {LEAST, -1, 0, 1, 127, 128, MOST}) {
                asks(s, f, i, -1);
            }
        }
        for (int n = 1; n <= 8; n++) {
            SuccessTyping t = new SuccessTyping(n, 16);
            Bodies.define(CHECK, t, n - 1, 0, "i5");
            asks(t, n - 1, 0, 133 * 4);
            asks(t, n, 0, -1);
            asks(t, -1, 0, -1);
        }
    }

    private static void negative() {
        SuccessTyping s = made();
        for (int i : new int[] {LEAST, -128, -3, -2, -1}) {
            asks(s, 0, i, -1);
            asks(s, 1, i, -1);
            asks(s, 3, i, -1);
        }
    }

    private static void tooLarge() {
        SuccessTyping s = made();
        for (int f : new int[] {0, 1, 3}) {
            int size = s.bodySize(f);
            for (int i : new int[] {size, size + 1, 63, 64, 127, 128, MOST - 1, MOST}) {
                asks(s, f, i, -1);
            }
        }
    }

    private static void leavesNoTrace() {
        Trace.none(CHECK, "nodeAt()", NodeAtTest::made, s -> {
            for (int f = -1; f <= 8; f++) {
                for (int i = -1; i <= 20; i++) {
                    s.nodeAt(f, i);
                }
            }
        });
    }
}
