import java.util.function.Supplier;

/** Promise 4: end. */
public final class EndTest {
    private static final Check CHECK = new Check();

    public static void main(String[] args) {
        CHECK.sentence("If no slot is BUILDING, it answers END_NOT_BUILDING and nothing changes.",
            EndTest::notBuilding);
        CHECK.sentence("If pending() != 1, it answers END_DISCARDED.", EndTest::morePending);
        CHECK.sentence("(including an empty body)", EndTest::emptyBody);
        CHECK.sentence("The slot's nodes leave the pool, freeing their room", EndTest::freesRoom);
        CHECK.sentence("and the slot is UNDEFINED again, with none BUILDING.",
            EndTest::undefinedAgain);
        CHECK.sentence("Summaries and analyzed() are unchanged.", EndTest::discardKeepsSummaries);
        CHECK.sentence("Otherwise the slot becomes DEFINED and none is BUILDING.",
            EndTest::becomesDefined);
        CHECK.sentence("analyzed() becomes false", EndTest::notAnalyzedAnyMore);
        CHECK.sentence("and end answers the slot index.", EndTest::answersSlot);
        CHECK.sentence("end never changes summaries or result().", EndTest::keepsResult);
        CHECK.sentence("A DEFINED slot never changes again.", EndTest::definedStays);
        CHECK.sentence("(a discarded body leaves nothing behind)", EndTest::nothingBehind);
        CHECK.finish();
    }

    /** Slot 0 of four is DEFINED, inferred and has been run with the result 4. */
    private static SuccessTyping oneDefined() {
        SuccessTyping s = new SuccessTyping(4, 32);
        Bodies.define(CHECK, s, 0, 1, "v0 i1 +");
        s.analyze();
        s.run(0, 3, 0);
        return s;
    }

    private static SuccessTyping begun(int f, int arity, String nodes) {
        SuccessTyping s = oneDefined();
        s.begin(f, arity);
        if (!nodes.isEmpty()) {
            Bodies.nodes(CHECK, s, nodes);
        }
        return s;
    }

    private static SuccessTyping ended(String nodes) {
        SuccessTyping s = begun(2, 1, nodes);
        s.end();
        return s;
    }

    private static void notBuilding() {
        idle(() -> new SuccessTyping(4, 32));
        idle(EndTest::oneDefined);
        idle(() -> ended(""));
        idle(() -> ended("v0 i1"));
        idle(() -> ended("v0"));
    }

    private static void idle(Supplier<SuccessTyping> made) {
        Trace.none(CHECK, "end()", made,
            s -> CHECK.due("end()", s.end(), SuccessTyping.END_NOT_BUILDING));
    }

    private static void discards(String body) {
        SuccessTyping s = begun(2, 1, body);
        CHECK.due("end() of '" + body + "'", s.end(), SuccessTyping.END_DISCARDED);
    }

    private static void morePending() {
        discards("v0 i1");
        discards("v0 i1 + i2");
        discards("v0 i1 + i2 i3");
        discards("i1 i2 i3 i4 i5 i6 i7 i8");
        SuccessTyping s = new SuccessTyping(1, 128);
        s.begin(0, 0);
        Bodies.fill(s);
        CHECK.due("end() of a full pool", s.end(), SuccessTyping.END_DISCARDED);
        // One pending subtree is a whole body, however many nodes it has.
        CHECK.due("end() of one node", begun(2, 1, "v0").end(), 2);
        CHECK.due("end() of seven nodes", begun(2, 1, "v0 i1 + i2 + i3 +").end(), 2);
    }

    private static void emptyBody() {
        for (int arity = 0; arity <= 2; arity++) {
            SuccessTyping s = begun(2, arity, "");
            CHECK.due("end()", s.end(), SuccessTyping.END_DISCARDED);
            CHECK.due("building()", s.building(), -1);
            CHECK.due("bodySize(2)", s.bodySize(2), -1);
        }
    }

    private static void freesRoom() {
        SuccessTyping s = new SuccessTyping(4, 20);
        for (int round = 0; round < 6; round++) {
            s.begin(round % 2, 0);
            CHECK.due("room", Bodies.fill(s), 20);
            CHECK.due("end()", s.end(), SuccessTyping.END_DISCARDED);
        }
        Bodies.define(CHECK, s, 3, 0, "i1 i2 +");
        for (int round = 0; round < 4; round++) {
            s.begin(round % 3, 0);
            CHECK.due("room beside three nodes", Bodies.fill(s), 17);
            CHECK.due("end()", s.end(), SuccessTyping.END_DISCARDED);
        }
        CHECK.due("bodySize(3)", s.bodySize(3), 3);
    }

    private static void undefinedAgain() {
        for (String body : new String[] {"", "v0 i1", "v0 v0 v0"}) {
            SuccessTyping s = begun(2, 1, body);
            CHECK.due("end()", s.end(), SuccessTyping.END_DISCARDED);
            CHECK.due("building()", s.building(), -1);
            CHECK.due("pending()", s.pending(), 0);
            CHECK.due("arity(2)", s.arity(2), -1);
            CHECK.due("bodySize(2)", s.bodySize(2), -1);
            CHECK.due("nodeAt(2, 0)", s.nodeAt(2, 0), -1);
            CHECK.run(s, 2, 1, 1, SuccessTyping.RUN_REFUSED, 4);
            CHECK.due("node(0, 1, 0)", s.node(SuccessTyping.KIND_INT, 1, 0), false);
            CHECK.due("begin(2, 2)", s.begin(2, 2), true);
            CHECK.due("arity(2)", s.arity(2), 2);
        }
    }

    private static void discardKeepsSummaries() {
        for (String body : new String[] {"", "v0 i1"}) {
            SuccessTyping s = begun(2, 1, body);
            String before = Snapshot.slots(s, 0, 1, 3);
            s.end();
            CHECK.due("the other slots", Snapshot.slots(s, 0, 1, 3), before);
            CHECK.allEmpty(s, 2);
            CHECK.due("analyzed()", s.analyzed(), true);
            CHECK.due("result()", s.result(), 4);
        }
        SuccessTyping s = new SuccessTyping(2, 16);
        s.begin(0, 0);
        s.end();
        CHECK.due("analyzed() without analyze()", s.analyzed(), false);
    }

    private static void becomesDefined() {
        SuccessTyping s = begun(3, 0, "i5 c0/1");
        CHECK.due("end()", s.end(), 3);
        CHECK.due("building()", s.building(), -1);
        CHECK.due("pending()", s.pending(), 0);
        CHECK.due("arity(3)", s.arity(3), 0);
        CHECK.due("bodySize(3)", s.bodySize(3), 2);
        CHECK.run(s, 3, 0, 0, SuccessTyping.RUN_OK, 6);
        CHECK.due("begin(3, 0)", s.begin(3, 0), false);
        CHECK.due("begin(1, 0)", s.begin(1, 0), true);
    }

    private static void notAnalyzedAnyMore() {
        SuccessTyping s = begun(2, 1, "v0");
        CHECK.due("analyzed()", s.analyzed(), true);
        CHECK.due("end()", s.end(), 2);
        CHECK.due("analyzed()", s.analyzed(), false);
        Bodies.define(CHECK, s, 1, 0, "i1");
        CHECK.due("analyzed()", s.analyzed(), false);
    }

    private static void answersSlot() {
        SuccessTyping s = new SuccessTyping(8, 16);
        for (int f : new int[] {7, 0, 3, 1, 6, 2, 5, 4}) {
            s.begin(f, 0);
            Bodies.nodes(CHECK, s, "i1");
            CHECK.due("end() of slot " + f, s.end(), f);
        }
    }

    private static void keepsResult() {
        SuccessTyping s = begun(2, 1, "v0 a3 =");
        String before = Snapshot.slots(s, 0, 1, 3);
        CHECK.due("end()", s.end(), 2);
        CHECK.due("the other slots", Snapshot.slots(s, 0, 1, 3), before);
        CHECK.allEmpty(s, 2);
        CHECK.due("result() after a body", s.result(), 4);
        s.end();
        CHECK.due("result() after END_NOT_BUILDING", s.result(), 4);
        s.begin(1, 0);
        s.end();
        CHECK.due("result() after END_DISCARDED", s.result(), 4);
    }

    private static void definedStays() {
        SuccessTyping s = new SuccessTyping(4, 32);
        Bodies.define(CHECK, s, 1, 1, "v0 i2 + i3 -");
        s.analyze();
        String slot = Snapshot.slots(s, 1);
        s.begin(1, 0);
        s.node(SuccessTyping.KIND_INT, 1, 0);
        CHECK.due("slot 1 after begin(1, 0)", Snapshot.slots(s, 1), slot);
        s.begin(0, 0);
        Bodies.fill(s);
        s.end();
        CHECK.due("slot 1 after a discarded body", Snapshot.slots(s, 1), slot);
        Bodies.define(CHECK, s, 0, 2, "v0 v1 <");
        s.begin(2, 2);
        Bodies.fill(s);
        CHECK.due("slot 1 beside other bodies", Snapshot.slots(s, 1), slot);
        CHECK.run(s, 1, 10, 0, SuccessTyping.RUN_OK, 9);
        s.analyze();
        CHECK.due("slot 1 after analyze()", Snapshot.slots(s, 1), slot);
    }

    private static void nothingBehind() {
        for (String body : new String[] {"", "v0 i1", "v0 i1 i2 if i5", "i1 i2 + i3"}) {
            Trace.none(CHECK, "a discarded '" + body + "'", EndTest::oneDefined, s -> {
                s.begin(2, 1);
                if (!body.isEmpty()) {
                    Bodies.nodes(CHECK, s, body);
                }
                CHECK.due("end()", s.end(), SuccessTyping.END_DISCARDED);
            });
        }
        liesWhereConditionLay();
    }

    /** The new bodies lie where the condition and the first branch of an IF lay before. */
    private static void liesWhereConditionLay() {
        SuccessTyping s = new SuccessTyping(2, 16);
        s.begin(0, 1);
        Bodies.nodes(CHECK, s, "v0 i1 i2 if i5");
        CHECK.due("end()", s.end(), SuccessTyping.END_DISCARDED);
        Bodies.define(CHECK, s, 0, 1, "v0");
        Bodies.define(CHECK, s, 1, 1, "v0");
        s.analyze();
        for (int f = 0; f < 2; f++) {
            CHECK.run(s, f, 5, 0, SuccessTyping.RUN_OK, 5);
            CHECK.run(s, f, 1000, 0, SuccessTyping.RUN_OK, 1000);
            CHECK.any(s, f, 0);
            CHECK.any(s, f, 2);
        }
    }
}
