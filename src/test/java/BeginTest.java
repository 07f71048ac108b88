import java.util.function.Supplier;

/** Promise 2: begin. */
public final class BeginTest {
    private static final Check CHECK = new Check();
    private static final int LEAST = Integer.MIN_VALUE;
    private static final int MOST = Integer.MAX_VALUE;

    public static void main(String[] args) {
        CHECK.sentence("refused if 1. a slot is BUILDING", BeginTest::whileBuilding);
        CHECK.sentence("refused if 2. f is not in 0..n-1", BeginTest::slotOutside);
        CHECK.sentence("refused if 3. f is not UNDEFINED", BeginTest::definedSlot);
        CHECK.sentence("refused if 4. arity is not in 0..2", BeginTest::arityOutside);
        CHECK.sentence("checked in this order", BeginTest::severalFaults);
        CHECK.sentence("Otherwise f becomes BUILDING with this arity and an empty body.",
            BeginTest::startsEach);
        CHECK.sentence("bodySize(f) is then 0, pending() is 0 and building() is f, and begin"
            + " answers true.", BeginTest::startsAfresh);
        CHECK.sentence("Summaries, analyzed(), result() and all other slots are unchanged.",
            BeginTest::leavesTheRest);
        CHECK.sentence("At most one slot is BUILDING.", BeginTest::oneBuilding);
        CHECK.finish();
    }

    private static void refused(Supplier<SuccessTyping> made, int f, int arity) {
        String call = "begin(" + f + ", " + arity + ")";
        Trace.none(CHECK, call, made, s -> CHECK.due(call, s.begin(f, arity), false));
    }

    /** Slot 2 of four is DEFINED, inferred and has been run. */
    private static SuccessTyping oneDefined() {
        SuccessTyping s = new SuccessTyping(4, 16);
        Bodies.define(CHECK, s, 2, 1, "v0 i1 +");
        s.analyze();
        s.run(2, 4, 0);
        return s;
    }

    private static SuccessTyping oneBegun() {
        SuccessTyping s = oneDefined();
        s.begin(1, 1);
        return s;
    }

    private static SuccessTyping oneHalfBuilt() {
        SuccessTyping s = oneBegun();
        Bodies.nodes(CHECK, s, "v0 i2");
        return s;
    }

    private static void whileBuilding() {
        for (int f = 0; f < 4; f++) {
            refused(BeginTest::oneBegun, f, 0);
            refused(BeginTest::oneHalfBuilt, f, 2);
        }
        SuccessTyping s = oneHalfBuilt();
        s.end();
        CHECK.due("begin(0, 0) after end()", s.begin(0, 0), true);
    }

    private static void slotOutside() {
        for (int n = 1; n <= 8; n++) {
            int slots = n;
            for (int f : new int[] {LEAST, -9, -2, -1, n, n + 1, 8, 9, 1000, MOST}) {
                refused(() -> new SuccessTyping(slots, 16), f, 0);
            }
            SuccessTyping s = new SuccessTyping(n, 16);
            CHECK.due("begin(0, 0)", s.begin(0, 0), true);
            s.end();
            CHECK.due("begin(n - 1, 0)", s.begin(n - 1, 0), true);
        }
    }

    private static void definedSlot() {
        for (int arity = 0; arity <= 2; arity++) {
            refused(BeginTest::oneDefined, 2, arity);
        }
        SuccessTyping s = oneDefined();
        CHECK.due("begin(1, 1)", s.begin(1, 1), true);
        CHECK.due("end()", s.end(), SuccessTyping.END_DISCARDED);
        CHECK.due("begin(1, 1) of a discarded body", s.begin(1, 1), true);
    }

    private static void arityOutside() {
        for (int arity : new int[] {LEAST, -2, -1, 3, 4, 8, MOST}) {
            refused(() -> new SuccessTyping(4, 16), 0, arity);
            refused(BeginTest::oneDefined, 3, arity);
        }
        for (int arity = 0; arity <= 2; arity++) {
            CHECK.due("begin(3, " + arity + ")", oneDefined().begin(3, arity), true);
        }
    }

    /** All refusals answer the same, so the order shows only in that no check trips over another. */
    private static void severalFaults() {
        for (int f : new int[] {LEAST, -1, 4, 8, MOST}) {
            for (int arity : new int[] {LEAST, -1, 0, 2, 3, MOST}) {
                refused(BeginTest::oneHalfBuilt, f, arity);
                refused(BeginTest::oneDefined, f, arity);
            }
        }
        for (int arity : new int[] {LEAST, -1, 3, MOST}) {
            refused(BeginTest::oneHalfBuilt, 0, arity);
            refused(BeginTest::oneHalfBuilt, 1, arity);
            refused(BeginTest::oneHalfBuilt, 2, arity);
            refused(BeginTest::oneDefined, 2, arity);
        }
    }

    private static void startsEach() {
        for (int f = 0; f < 8; f++) {
            for (int arity = 0; arity <= 2; arity++) {
                SuccessTyping s = new SuccessTyping(8, 16);
                CHECK.due("begin(" + f + ", " + arity + ")", s.begin(f, arity), true);
                CHECK.due("building()", s.building(), f);
                CHECK.due("arity(" + f + ")", s.arity(f), arity);
                CHECK.due("nodeAt(" + f + ", 0)", s.nodeAt(f, 0), -1);
                for (int a = 0; a <= 2; a++) {
                    boolean due = a < arity;
                    CHECK.due("node(2, " + a + ", 0)", s.node(SuccessTyping.KIND_VAR, a, 0), due);
                }
            }
        }
    }

    private static void startsAfresh() {
        SuccessTyping s = new SuccessTyping(2, 16);
        int[] arities = {2, 0, 1};
        for (int arity : arities) {
            CHECK.due("begin(1, " + arity + ")", s.begin(1, arity), true);
            CHECK.due("bodySize(1)", s.bodySize(1), 0);
            CHECK.due("pending()", s.pending(), 0);
            CHECK.due("building()", s.building(), 1);
            CHECK.due("arity(1)", s.arity(1), arity);
            Bodies.nodes(CHECK, s, "i1 i2 i3");
            CHECK.due("end()", s.end(), SuccessTyping.END_DISCARDED);
        }
        Bodies.define(CHECK, s, 0, 1, "v0 i1 + i2 +");
        CHECK.due("begin(1, 2)", s.begin(1, 2), true);
        CHECK.due("bodySize(1)", s.bodySize(1), 0);
        CHECK.due("pending()", s.pending(), 0);
    }

    private static void leavesTheRest() {
        SuccessTyping s = oneDefined();
        String slots = Snapshot.slots(s, 0, 1, 2);
        CHECK.due("begin(3, 1)", s.begin(3, 1), true);
        CHECK.due("the other slots", Snapshot.slots(s, 0, 1, 2), slots);
        CHECK.allEmpty(s, 3);
        CHECK.due("analyzed()", s.analyzed(), true);
        CHECK.due("result()", s.result(), 5);
        s = new SuccessTyping(4, 16);
        s.begin(3, 1);
        CHECK.due("analyzed()", s.analyzed(), false);
        CHECK.due("result()", s.result(), 0);
    }

    private static void oneBuilding() {
        SuccessTyping s = new SuccessTyping(8, 16);
        s.begin(3, 0);
        for (int f = 0; f < 8; f++) {
            s.begin(f, 0);
            CHECK.due("building()", s.building(), 3);
            CHECK.due("bodySize(" + f + ")", s.bodySize(f), f == 3 ? 0 : -1);
        }
    }
}
