/** Promise 4: end. */
public final class EndTest {
    private static final Check CHECK = new Check();

    public static void main(String[] args) {
        withoutBuilding();
        definesWholeBody();
        discards("");
        discards("v0 i1");
        discards("v0 i1 + i2 i3");
        freesRoom();
        keepsOtherBodiesOnDiscard();
        forgetsDiscardedBody();
        CHECK.finish();
    }

    private static void withoutBuilding() {
        SuccessTyping s = new SuccessTyping(2, 16);
        String before = Snapshot.of(s);
        CHECK.due("end()", s.end(), SuccessTyping.END_NOT_BUILDING);
        CHECK.due("a new object after end()", Snapshot.of(s), before);
        Bodies.define(CHECK, s, 1, 1, "v0 i1 +");
        s.analyze();
        s.run(1, 3, 0);
        before = Snapshot.of(s);
        CHECK.due("end()", s.end(), SuccessTyping.END_NOT_BUILDING);
        CHECK.due("the object after end()", Snapshot.of(s), before);
    }

    private static void definesWholeBody() {
        SuccessTyping s = new SuccessTyping(4, 32);
        Bodies.define(CHECK, s, 0, 1, "v0 i1 +");
        s.analyze();
        s.run(0, 3, 0);
        s.begin(3, 0);
        Bodies.nodes(CHECK, s, "i5 c0/1");
        CHECK.due("analyzed()", s.analyzed(), true);
        CHECK.due("end()", s.end(), 3);
        CHECK.due("analyzed()", s.analyzed(), false);
        CHECK.due("building()", s.building(), -1);
        CHECK.due("pending()", s.pending(), 0);
        CHECK.due("bodySize(3)", s.bodySize(3), 2);
        CHECK.due("result()", s.result(), 4);
        CHECK.ints(s, 0, 2);
        CHECK.empty(s, 3, 2);
        CHECK.run(s, 3, 0, 0, SuccessTyping.RUN_OK, 6);
    }

    private static void discards(String body) {
        SuccessTyping s = new SuccessTyping(4, 32);
        Bodies.define(CHECK, s, 0, 1, "v0 i1 +");
        s.analyze();
        s.run(0, 3, 0);
        String before = Snapshot.of(s);
        s.begin(2, 1);
        if (!body.isEmpty()) {
            Bodies.nodes(CHECK, s, body);
        }
        CHECK.due("end() of '" + body + "'", s.end(), SuccessTyping.END_DISCARDED);
        CHECK.due("the object without '" + body + "'", Snapshot.of(s), before);
        CHECK.due("end()", s.end(), SuccessTyping.END_NOT_BUILDING);
        CHECK.run(s, 2, 0, 0, SuccessTyping.RUN_REFUSED, 4);
    }

    private static void freesRoom() {
        SuccessTyping s = new SuccessTyping(2, 16);
        for (int round = 0; round < 3; round++) {
            s.begin(round % 2, 0);
            for (int i = 0; i < 16; i++) {
                CHECK.due("node " + i, s.node(SuccessTyping.KIND_INT, i, 0), true);
            }
            CHECK.due("end()", s.end(), SuccessTyping.END_DISCARDED);
        }
    }

    private static void keepsOtherBodiesOnDiscard() {
        SuccessTyping s = new SuccessTyping(3, 16);
        Bodies.define(CHECK, s, 2, 1, "v0 i2 +");
        s.begin(0, 0);
        Bodies.nodes(CHECK, s, "a1 a2 a3");
        CHECK.due("end()", s.end(), SuccessTyping.END_DISCARDED);
        Bodies.define(CHECK, s, 1, 1, "v0 c2/1 i3 +");
        CHECK.run(s, 2, 10, 0, SuccessTyping.RUN_OK, 12);
        CHECK.run(s, 1, 10, 0, SuccessTyping.RUN_OK, 15);
    }

    /** The new body lies where the condition and the first branch of an IF lay before. */
    private static void forgetsDiscardedBody() {
        SuccessTyping s = new SuccessTyping(2, 16);
        s.begin(0, 1);
        Bodies.nodes(CHECK, s, "v0 i1 i2 if i5");
        CHECK.due("end()", s.end(), SuccessTyping.END_DISCARDED);
        Bodies.define(CHECK, s, 0, 1, "v0");
        Bodies.define(CHECK, s, 1, 1, "v0");
        s.analyze();
        for (int f = 0; f < 2; f++) {
            CHECK.run(s, f, 5, 0, SuccessTyping.RUN_OK, 5);
            CHECK.run(s, f, 1000, 0, SuccessTyping.RUN_OK, 1000);
            CHECK.any(s, f, 0);
            CHECK.any(s, f, 2);
        }
    }
}
