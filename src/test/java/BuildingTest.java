/** Promises 13 and 14: building and pending. */
public final class BuildingTest {
    private static final Check CHECK = new Check();

    public static void main(String[] args) {
        SuccessTyping s = new SuccessTyping(3, 64);
        shows(s, -1, 0);
        s.begin(3, 0);
        shows(s, -1, 0);
        s.begin(2, 1);
        shows(s, 2, 0);
        s.begin(1, 1);
        shows(s, 2, 0);
        String[] words = {"i1", "a2", "v0", "c0/0", "if", "int?", "c1/2", "i3", "+", "c2/1", "v0", "="};
        int[] pending = {1, 2, 3, 4, 2, 2, 1, 2, 1, 1, 2, 1};
        for (int i = 0; i < words.length; i++) {
            Bodies.nodes(CHECK, s, words[i]);
            shows(s, 2, pending[i]);
        }
        s.node(SuccessTyping.KIND_IF, 0, 0);
        shows(s, 2, 1);
        s.analyze();
        shows(s, 2, 1);
        CHECK.due("end()", s.end(), 2);
        shows(s, -1, 0);
        s.run(2, 1, 0);
        shows(s, -1, 0);
        s.begin(0, 0);
        Bodies.nodes(CHECK, s, "i1 i2 i3");
        shows(s, 0, 3);
        CHECK.due("end()", s.end(), SuccessTyping.END_DISCARDED);
        shows(s, -1, 0);
        CHECK.due("end()", s.end(), SuccessTyping.END_NOT_BUILDING);
        shows(s, -1, 0);
        CHECK.finish();
    }

    private static void shows(SuccessTyping s, int building, int pending) {
        String before = Snapshot.of(s);
        CHECK.due("building()", s.building(), building);
        CHECK.due("pending()", s.pending(), pending);
        CHECK.due("the object after building() and pending()", Snapshot.of(s), before);
    }
}
