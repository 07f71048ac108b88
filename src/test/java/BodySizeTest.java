/** Promises 11 and 12: bodySize and arity. */
public final class BodySizeTest {
    private static final Check CHECK = new Check();
    private static final int LEAST = Integer.MIN_VALUE;
    private static final int MOST = Integer.MAX_VALUE;

    public static void main(String[] args) {
        CHECK.sentence("`bodySize(f)` answers the number of nodes in slot f's body if f is BUILDING",
            BodySizeTest::sizeWhileBuilding);
        CHECK.sentence("or DEFINED.", BodySizeTest::sizeOfDefined);
        CHECK.sentence("bodySize: It answers -1 otherwise", BodySizeTest::sizeWithoutBody);
        CHECK.sentence("bodySize: including for f outside 0..n-1.", BodySizeTest::sizeOutside);
        CHECK.sentence("`arity(f)` answers the arity of slot f if it is BUILDING or DEFINED.",
            BodySizeTest::arities);
        CHECK.sentence("arity: It answers -1 otherwise", BodySizeTest::arityWithoutBody);
        CHECK.sentence("arity: including for f outside 0..n-1.", BodySizeTest::arityOutside);
        CHECK.sentence("Nothing changes.", BodySizeTest::leaveNoTrace);
        CHECK.finish();
    }

    private static void size(SuccessTyping s, int f, int due) {
        CHECK.due("bodySize(" + f + ")", s.bodySize(f), due);
    }

    private static void arity(SuccessTyping s, int f, int due) {
        CHECK.due("arity(" + f + ")", s.arity(f), due);
    }

    private static void sizeWhileBuilding() {
        SuccessTyping s = new SuccessTyping(4, 128);
        Bodies.define(CHECK, s, 0, 0, "i1 i2 +");
        s.begin(3, 2);
        size(s, 3, 0);
        Bodies.nodes(CHECK, s, "v0 v1 v0");
        size(s, 3, 3);
        s.node(SuccessTyping.KIND_VAR, 2, 0);
        size(s, 3, 3);
        Bodies.nodes(CHECK, s, "+ +");
        size(s, 3, 5);
        Bodies.fill(s);
        size(s, 3, 125);
        size(s, 0, 3);
    }

    private static void sizeOfDefined() {
        SuccessTyping s = new SuccessTyping(4, 64);
        Bodies.define(CHECK, s, 0, 2, "v0 v1 + v0 +");
        Bodies.define(CHECK, s, 3, 0, "i1");
        Bodies.define(CHECK, s, 1, 1, "a1 v0 i2 if");
        size(s, 0, 5);
        size(s, 3, 1);
        size(s, 1, 4);
        s.analyze();
        s.run(0, 1, 2);
        size(s, 0, 5);
    }

    private static void sizeWithoutBody() {
        SuccessTyping s = new SuccessTyping(4, 64);
        size(s, 0, -1);
        size(s, 3, -1);
        s.begin(0, 1);
        size(s, 3, -1);
        Bodies.nodes(CHECK, s, "v0 v0");
        size(s, 0, 2);
        s.end();
        size(s, 0, -1);
    }

    private static void sizeOutside() {
        for (int n = 1; n <= 8; n++) {
            SuccessTyping s = new SuccessTyping(n, 64);
            Bodies.define(CHECK, s, n - 1, 2, "v0");
            size(s, n - 1, 1);
            for (int f : new int[] {LEAST, -2, -1, n, n + 1, 8, 9, MOST}) {
                size(s, f, -1);
            }
        }
    }

    private static void arities() {
        for (int arity = 0; arity <= 2; arity++) {
            SuccessTyping s = new SuccessTyping(4, 64);
            s.begin(2, arity);
            arity(s, 2, arity);
            Bodies.nodes(CHECK, s, "i1");
            arity(s, 2, arity);
            s.end();
            arity(s, 2, arity);
            Bodies.define(CHECK, s, 3, 2 - arity, "i1");
            arity(s, 3, 2 - arity);
            s.analyze();
            s.run(2, 1, 1);
            arity(s, 2, arity);
        }
    }

    private static void arityWithoutBody() {
        SuccessTyping s = new SuccessTyping(4, 64);
        arity(s, 0, -1);
        arity(s, 3, -1);
        s.begin(0, 2);
        arity(s, 3, -1);
        s.end();
        arity(s, 0, -1);
        s.begin(0, 1);
        Bodies.nodes(CHECK, s, "v0 v0");
        s.end();
        arity(s, 0, -1);
    }

    private static void arityOutside() {
        for (int n = 1; n <= 8; n++) {
            SuccessTyping s = new SuccessTyping(n, 64);
            Bodies.define(CHECK, s, n - 1, 2, "v0");
            arity(s, n - 1, 2);
            for (int f : new int[] {LEAST, -2, -1, n, n + 1, 8, 9, MOST}) {
                arity(s, f, -1);
            }
        }
    }

    private static void leaveNoTrace() {
        Trace.none(CHECK, "bodySize() and arity()", () -> {
            SuccessTyping s = new SuccessTyping(4, 64);
            Bodies.define(CHECK, s, 0, 2, "v0 v1 +");
            s.analyze();
            s.begin(2, 1);
            Bodies.nodes(CHECK, s, "v0 i1");
            return s;
        }, s -> {
            for (int f = -1; f <= 8; f++) {
                s.bodySize(f);
                s.arity(f);
            }
        });
    }
}
