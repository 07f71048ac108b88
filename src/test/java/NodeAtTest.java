/** Promise 10: nodeAt. */
public final class NodeAtTest {
    private static final Check CHECK = new Check();

    public static void main(String[] args) {
        SuccessTyping s = new SuccessTyping(3, 64);
        Bodies.define(CHECK, s, 0, 0, "i99");
        s.begin(1, 2);
        int[] due = {29 * 4, 227 * 4, 3 * 1024 + 512, 1024 + 128 * 4, 1024 + 135 * 4,
            6 * 1024 + 512, 2 * 1024 + 128 * 4, 2 * 1024 + 129 * 4, 4 * 1024 + 512,
            9 * 1024 + 128 * 4, 9 * 1024 + 130 * 4 + 1, 5 * 1024 + 512, 7 * 1024 + 512,
            9 * 1024 + 129 * 4 + 2, 135 * 4, 134 * 4, 8 * 1024 + 512};
        Bodies.nodes(CHECK, s, "i-99 i99 + a0 a7 = v0 v1 - c0/0 c2/1 < int? c1/2 i7 i6 if");
        nodes(s, 1, due);
        CHECK.due("end()", s.end(), SuccessTyping.END_DISCARDED);
        CHECK.due("nodeAt(1, 0) of a discarded body", s.nodeAt(1, 0), -1);
        Bodies.define(CHECK, s, 1, 1, "v0 i-1 +");
        nodes(s, 1, new int[] {2560, 127 * 4, 3584});
        nodes(s, 0, new int[] {227 * 4});
        nodes(s, 2, new int[0]);
        for (int f : new int[] {Integer.MIN_VALUE, -1, 3, 8, Integer.MAX_VALUE}) {
            nodes(s, f, new int[0]);
        }
        CHECK.finish();
    }

    private static void nodes(SuccessTyping s, int f, int[] due) {
        String before = Snapshot.of(s);
        for (int i = 0; i < due.length; i++) {
            CHECK.due("nodeAt(" + f + ", " + i + ")", s.nodeAt(f, i), due[i]);
        }
        int[] outside = {Integer.MIN_VALUE, -2, -1, due.length, due.length + 1, 127, 128,
            Integer.MAX_VALUE};
        for (int i : outside) {
            CHECK.due("nodeAt(" + f + ", " + i + ")", s.nodeAt(f, i), -1);
        }
        CHECK.due("the object after nodeAt()", Snapshot.of(s), before);
    }
}
