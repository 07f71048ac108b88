/** Promises 13 and 14: building and pending. */
public final class BuildingTest {
    private static final Check CHECK = new Check();

    public static void main(String[] args) {
        CHECK.sentence("`building()` answers the BUILDING slot", BuildingTest::buildingSlot);
        CHECK.sentence("or -1 if there is none.", BuildingTest::noneBuilding);
        CHECK.sentence("`pending()` answers the number of pending subtrees of the BUILDING body:"
            + " stored nodes that are not yet a child.", BuildingTest::pendingSubtrees);
        CHECK.sentence("It answers 0 if no slot is BUILDING.", BuildingTest::nonePending);
        CHECK.sentence("(0 pending in a body that is just begun)", BuildingTest::emptyBody);
        CHECK.sentence("Nothing changes.", BuildingTest::leaveNoTrace);
        CHECK.finish();
    }

    private static void building(SuccessTyping s, int due) {
        CHECK.due("building()", s.building(), due);
    }

    private static void pending(SuccessTyping s, int due) {
        CHECK.due("pending()", s.pending(), due);
    }

    private static void buildingSlot() {
        for (int f = 0; f < 8; f++) {
            SuccessTyping s = new SuccessTyping(8, 16);
            s.begin(f, 1);
            building(s, f);
            s.begin(1, 1);
            building(s, f);
            Bodies.nodes(CHECK, s, "v0");
            building(s, f);
            s.node(SuccessTyping.KIND_IF, 0, 0);
            s.analyze();
            s.run(f, 1, 1);
            building(s, f);
        }
    }

    private static void noneBuilding() {
        SuccessTyping s = new SuccessTyping(3, 16);
        building(s, -1);
        s.begin(3, 0);
        building(s, -1);
        s.begin(0, 3);
        building(s, -1);
        s.begin(0, 0);
        CHECK.due("end()", s.end(), SuccessTyping.END_DISCARDED);
        building(s, -1);
        CHECK.due("end()", s.end(), SuccessTyping.END_NOT_BUILDING);
        building(s, -1);
        Bodies.define(CHECK, s, 0, 0, "i1");
        building(s, -1);
        s.begin(0, 0);
        building(s, -1);
    }

    private static void pendingSubtrees() {
        SuccessTyping s = new SuccessTyping(3, 64);
        s.begin(2, 1);
        String[] words = {"i1", "a2", "v0", "c0/0", "if", "int?", "c1/2", "i3", "+", "c2/1", "v0",
            "=", "i4", "-", "i5", "<"};
        int[] due = {1, 2, 3, 4, 2, 2, 1, 2, 1, 1, 2, 1, 2, 1, 2, 1};
        for (int i = 0; i < words.length; i++) {
            Bodies.nodes(CHECK, s, words[i]);
            pending(s, due[i]);
        }
        s.node(SuccessTyping.KIND_IF, 0, 0);
        pending(s, 1);
        s.analyze();
        pending(s, 1);
        SuccessTyping full = new SuccessTyping(1, 128);
        full.begin(0, 0);
        Bodies.fill(full);
        pending(full, 128);
    }

    private static void nonePending() {
        SuccessTyping s = new SuccessTyping(3, 16);
        pending(s, 0);
        s.begin(0, 0);
        Bodies.nodes(CHECK, s, "i1");
        s.end();
        pending(s, 0);
        s.begin(1, 0);
        Bodies.nodes(CHECK, s, "i1 i2 i3");
        pending(s, 3);
        CHECK.due("end()", s.end(), SuccessTyping.END_DISCARDED);
        pending(s, 0);
        s.node(SuccessTyping.KIND_INT, 1, 0);
        pending(s, 0);
        s.analyze();
        s.run(0, 0, 0);
        pending(s, 0);
    }

    private static void emptyBody() {
        SuccessTyping s = new SuccessTyping(3, 16);
        s.begin(0, 2);
        pending(s, 0);
        s.end();
        s.begin(0, 2);
        Bodies.nodes(CHECK, s, "i1 i2");
        s.end();
        s.begin(0, 2);
        pending(s, 0);
        Bodies.nodes(CHECK, s, "i1");
        s.end();
        s.begin(1, 2);
        pending(s, 0);
    }

    private static void leaveNoTrace() {
        Trace.none(CHECK, "building() and pending()", () -> {
            SuccessTyping s = new SuccessTyping(4, 64);
            Bodies.define(CHECK, s, 0, 2, "v0 v1 +");
            s.analyze();
            s.begin(2, 1);
            Bodies.nodes(CHECK, s, "v0 i1 i2");
            return s;
        }, s -> {
            s.building();
            s.pending();
        });
    }
}
