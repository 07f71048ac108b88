/** Promises 11 and 12: bodySize and arity. */
public final class BodySizeTest {
    private static final Check CHECK = new Check();

    public static void main(String[] args) {
        SuccessTyping s = new SuccessTyping(4, 64);
        sizes(s, 0, -1, -1);
        s.begin(0, 2);
        sizes(s, 0, 0, 2);
        Bodies.nodes(CHECK, s, "v0 v1 v0");
        sizes(s, 0, 3, 2);
        s.node(SuccessTyping.KIND_VAR, 2, 0);
        sizes(s, 0, 3, 2);
        Bodies.nodes(CHECK, s, "+ +");
        sizes(s, 0, 5, 2);
        CHECK.due("end()", s.end(), 0);
        sizes(s, 0, 5, 2);
        s.begin(3, 1);
        Bodies.nodes(CHECK, s, "v0 v0");
        sizes(s, 3, 2, 1);
        sizes(s, 0, 5, 2);
        CHECK.due("end()", s.end(), SuccessTyping.END_DISCARDED);
        sizes(s, 3, -1, -1);
        Bodies.define(CHECK, s, 3, 0, "i1");
        sizes(s, 3, 1, 0);
        Bodies.define(CHECK, s, 1, 1, "i1 i2 +");
        sizes(s, 1, 3, 1);
        sizes(s, 2, -1, -1);
        s.analyze();
        s.run(0, 1, 2);
        sizes(s, 0, 5, 2);
        for (int f : new int[] {Integer.MIN_VALUE, -1, 4, 7, 8, Integer.MAX_VALUE}) {
            sizes(s, f, -1, -1);
        }
        fullFace();
        CHECK.finish();
    }

    /** With all eight slots, the first one outside lies past every array of slots. */
    private static void fullFace() {
        SuccessTyping s = new SuccessTyping(8, 128);
        sizes(s, 7, -1, -1);
        sizes(s, 8, -1, -1);
        Bodies.define(CHECK, s, 7, 2, "v0");
        sizes(s, 7, 1, 2);
        sizes(s, 8, -1, -1);
    }

    private static void sizes(SuccessTyping s, int f, int size, int arity) {
        String before = Snapshot.of(s);
        CHECK.due("bodySize(" + f + ")", s.bodySize(f), size);
        CHECK.due("arity(" + f + ")", s.arity(f), arity);
        CHECK.due("the object after bodySize() and arity()", Snapshot.of(s), before);
    }
}
