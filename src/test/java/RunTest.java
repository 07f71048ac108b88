import java.util.function.Supplier;

/** Promise 9: what run refuses and answers, and what result() says. */
public final class RunTest {
    private static final Check CHECK = new Check();
    private static final int OK = SuccessTyping.RUN_OK;
    private static final int FAIL = SuccessTyping.RUN_FAIL;
    private static final int LIMIT = SuccessTyping.RUN_LIMIT;
    private static final int REFUSED = SuccessTyping.RUN_REFUSED;
    private static final int LEAST = Integer.MIN_VALUE;
    private static final int MOST = Integer.MAX_VALUE;
    private static final int[] CODES = {-99, -98, -1, 0, 1, 98, 99, 1000, 1001, 1006, 1007};
    private static final int[] NO_CODES = {LEAST, -1001, -1000, -101, -100, 100, 101, 998, 999, 1008,
        1009, 2000, MOST};

    public static void main(String[] args) {
        CHECK.sentence("refused if 1. f is not in 0..n-1", RunTest::slotOutside);
        CHECK.sentence("or is not DEFINED", RunTest::notDefined);
        CHECK.sentence("refused if 2. arity >= 1 and x is not a value code", RunTest::firstNoCode);
        CHECK.sentence("refused if 3. arity = 2 and y is not a value code", RunTest::secondNoCode);
        CHECK.sentence("in this order", RunTest::severalFaults);
        CHECK.sentence("Arguments past the arity are ignored and may be any int.",
            RunTest::argumentsPastArity);
        CHECK.sentence("slot f is called with parameter 0 = x and parameter 1 = y",
            RunTest::parameters);
        CHECK.sentence("Call counts start afresh in each run.", RunTest::countsStartAfresh);
        CHECK.sentence("RUN_OK if the top body gives a value", RunTest::succeeds);
        CHECK.sentence("RUN_FAIL if the first ending event is a FAIL", RunTest::fails);
        CHECK.sentence("RUN_LIMIT if the first ending event is a LIMIT", RunTest::comesToLimit);
        CHECK.sentence("result() becomes the code of the value on RUN_OK", RunTest::resultOfSuccess);
        CHECK.sentence("and 0 otherwise.", RunTest::resultOfFailure);
        CHECK.sentence("(answers RUN_REFUSED, and nothing changes, result() included)",
            RunTest::resultOfRefusal);
        CHECK.sentence("Nothing else changes: slots, bodies, summaries and analyzed() stay as they"
            + " are.", RunTest::leavesTheRest);
        CHECK.sentence("`result()` answers the value code set by the last run() that was not refused",
            RunTest::resultStays);
        CHECK.sentence("and 0 if there was none.", RunTest::resultWithoutRun);
        CHECK.finish();
    }

    /** Slots 0 to 2 are DEFINED with as many parameters; slot 3 counts down; the result is 42. */
    private static SuccessTyping made() {
        SuccessTyping s = new SuccessTyping(6, 64);
        Bodies.define(CHECK, s, 0, 0, "i5");
        Bodies.define(CHECK, s, 1, 1, "v0");
        Bodies.define(CHECK, s, 2, 2, "v0 v1 =");
        Bodies.define(CHECK, s, 3, 1, "v0 i0 = i7 v0 i1 - c3/1 if");
        s.analyze();
        s.run(1, 42, 0);
        return s;
    }

    private static SuccessTyping building() {
        SuccessTyping s = made();
        s.begin(4, 0);
        Bodies.nodes(CHECK, s, "i1");
        return s;
    }

    private static void refused(Supplier<SuccessTyping> from, int f, int x, int y) {
        String call = "run(" + f + ", " + x + ", " + y + ")";
        Trace.none(CHECK, call, from, s -> CHECK.run(s, f, x, y, REFUSED, 42));
    }

    private static void slotOutside() {
        for (int f : new int[] {LEAST, -2, -1, 6, 7, 8, 9, MOST}) {
            refused(RunTest::made, f, 0, 0);
        }
        for (int n = 1; n <= 8; n++) {
            SuccessTyping s = new SuccessTyping(n, 16);
            Bodies.define(CHECK, s, n - 1, 0, "i3");
            CHECK.run(s, n - 1, 0, 0, OK, 3);
            CHECK.run(s, n, 0, 0, REFUSED, 3);
            CHECK.run(s, -1, 0, 0, REFUSED, 3);
        }
    }

    private static SuccessTyping discarded() {
        SuccessTyping s = building();
        Bodies.nodes(CHECK, s, "i2");
        CHECK.due("end()", s.end(), SuccessTyping.END_DISCARDED);
        return s;
    }

    private static void notDefined() {
        refused(RunTest::made, 4, 0, 0);
        refused(RunTest::made, 5, 0, 0);
        refused(RunTest::building, 4, 0, 0);
        refused(RunTest::discarded, 4, 0, 0);
        SuccessTyping s = building();
        CHECK.due("end()", s.end(), 4);
        CHECK.run(s, 4, 0, 0, OK, 1);
    }

    private static void firstNoCode() {
        for (int code : NO_CODES) {
            refused(RunTest::made, 1, code, 0);
            refused(RunTest::made, 2, code, 0);
        }
        for (int code : CODES) {
            CHECK.run(made(), 1, code, 0, OK, code);
            CHECK.run(made(), 2, code, code, OK, 1001);
        }
    }

    private static void secondNoCode() {
        for (int code : NO_CODES) {
            refused(RunTest::made, 2, 0, code);
            refused(RunTest::made, 2, 1007, code);
        }
        for (int code : CODES) {
            CHECK.run(made(), 2, 5, code, OK, 1000);
        }
    }

    /** All refusals answer the same, so the order shows only in that no check trips over another. */
    private static void severalFaults() {
        for (int code : NO_CODES) {
            refused(RunTest::made, 2, code, code);
            refused(RunTest::made, 5, code, code);
            refused(RunTest::building, 4, code, code);
            refused(RunTest::made, -1, code, code);
            refused(RunTest::made, 6, code, code);
            refused(RunTest::made, MOST, code, code);
        }
    }

    private static void argumentsPastArity() {
        SuccessTyping s = made();
        for (int code : NO_CODES) {
            CHECK.run(s, 0, code, code, OK, 5);
            CHECK.run(s, 1, 1003, code, OK, 1003);
            CHECK.run(s, 1, -99, code, OK, -99);
        }
    }

    private static void parameters() {
        SuccessTyping s = new SuccessTyping(4, 32);
        Bodies.define(CHECK, s, 0, 2, "v0");
        Bodies.define(CHECK, s, 1, 2, "v1");
        Bodies.define(CHECK, s, 2, 1, "v0");
        Bodies.define(CHECK, s, 3, 2, "v0 v1 -");
        for (int code : CODES) {
            CHECK.run(s, 0, code, 3, OK, code);
            CHECK.run(s, 1, 3, code, OK, code);
            CHECK.run(s, 2, code, 3, OK, code);
        }
        CHECK.run(s, 3, 9, 2, OK, 7);
        CHECK.run(s, 3, 2, 9, OK, -7);
    }

    /** Runs that end in the middle leave calls open, which the next run must not count. */
    private static void countsStartAfresh() {
        SuccessTyping s = made();
        for (int i = 0; i < 30; i++) {
            CHECK.run(s, 3, 16, 0, LIMIT, 0);
            CHECK.run(s, 3, 15, 0, OK, 7);
            CHECK.run(s, 3, 1000, 0, FAIL, 0);
        }
    }

    private static void succeeds() {
        SuccessTyping s = made();
        CHECK.due("run(0, 0, 0)", s.run(0, 0, 0), OK);
        CHECK.due("run(1, 0, 0)", s.run(1, 0, 0), OK);
        CHECK.due("run(2, 0, 0)", s.run(2, 0, 0), OK);
        CHECK.due("run(3, 0, 0)", s.run(3, 0, 0), OK);
        CHECK.due("run(3, 3, 0)", s.run(3, 3, 0), OK);
    }

    private static void fails() {
        SuccessTyping s = made();
        CHECK.due("run(3, 1000, 0)", s.run(3, 1000, 0), FAIL);
        Bodies.define(CHECK, s, 4, 1, "v0 v0 +");
        CHECK.due("run(4, 49, 0)", s.run(4, 49, 0), OK);
        CHECK.due("run(4, 50, 0)", s.run(4, 50, 0), FAIL);
        Bodies.define(CHECK, s, 5, 0, "a0 i1 + i30 c3/1 +");
        CHECK.due("run(5, 0, 0)", s.run(5, 0, 0), FAIL);
    }

    private static void comesToLimit() {
        SuccessTyping s = made();
        CHECK.due("run(3, 15, 0)", s.run(3, 15, 0), OK);
        CHECK.due("run(3, 16, 0)", s.run(3, 16, 0), LIMIT);
        CHECK.due("run(3, 99, 0)", s.run(3, 99, 0), LIMIT);
        CHECK.due("run(3, -1, 0)", s.run(3, -1, 0), LIMIT);
        Bodies.define(CHECK, s, 4, 0, "i30 c3/1 a0 i1 + +");
        CHECK.due("run(4, 0, 0)", s.run(4, 0, 0), LIMIT);
    }

    private static void resultOfSuccess() {
        for (int c = -99; c <= 99; c++) {
            SuccessTyping s = new SuccessTyping(1, 16);
            Bodies.define(CHECK, s, 0, 0, "i" + c);
            CHECK.run(s, 0, 0, 0, OK, c);
        }
        for (int a = 0; a < 8; a++) {
            SuccessTyping s = new SuccessTyping(1, 16);
            Bodies.define(CHECK, s, 0, 0, "a" + a);
            CHECK.run(s, 0, 0, 0, OK, 1000 + a);
        }
    }

    private static void resultOfFailure() {
        SuccessTyping s = made();
        CHECK.run(s, 0, 0, 0, OK, 5);
        CHECK.run(s, 3, 1003, 0, FAIL, 0);
        CHECK.run(s, 0, 0, 0, OK, 5);
        CHECK.run(s, 3, 20, 0, LIMIT, 0);
        // The body gives values on the way to the FAIL and to the LIMIT.
        Bodies.define(CHECK, s, 4, 0, "i1 c1/1 a2 +");
        CHECK.run(s, 1, 1007, 0, OK, 1007);
        CHECK.run(s, 4, 0, 0, FAIL, 0);
    }

    private static void resultOfRefusal() {
        SuccessTyping s = made();
        CHECK.run(s, 9, 0, 0, REFUSED, 42);
        CHECK.run(s, 1, 500, 0, REFUSED, 42);
        CHECK.run(s, 2, 5, 500, REFUSED, 42);
        CHECK.run(s, 3, 20, 0, LIMIT, 0);
        CHECK.run(s, 5, 0, 0, REFUSED, 0);
        CHECK.run(s, 1, 1002, 0, OK, 1002);
        CHECK.run(s, 1, 1008, 0, REFUSED, 1002);
    }

    private static void leavesTheRest() {
        for (boolean analyzed : new boolean[] {true, false}) {
            Supplier<SuccessTyping> from = () -> {
                SuccessTyping s = building();
                if (!analyzed) {
                    s.end();
                    s.begin(5, 2);
                    Bodies.nodes(CHECK, s, "v0 v1");
                }
                s.run(3, 20, 0);
                return s;
            };
            // Each of these leaves result() at 0, where it was.
            Trace.none(CHECK, "a LIMIT", from, s -> CHECK.run(s, 3, 16, 0, LIMIT, 0));
            Trace.none(CHECK, "a FAIL", from, s -> CHECK.run(s, 3, 1000, 0, FAIL, 0));
            Trace.none(CHECK, "an OK", from, s -> CHECK.run(s, 1, 0, 0, OK, 0));
        }
    }

    private static void resultStays() {
        SuccessTyping s = made();
        s.result();
        CHECK.due("result() asked again", s.result(), 42);
        s.begin(4, 0);
        Bodies.nodes(CHECK, s, "i1");
        s.analyze();
        CHECK.due("result() while building", s.result(), 42);
        s.end();
        s.analyze();
        Snapshot.of(s);
        CHECK.due("result() after all else", s.result(), 42);
        CHECK.run(s, 1, 17, 0, OK, 17);
    }

    private static void resultWithoutRun() {
        SuccessTyping s = new SuccessTyping(2, 16);
        CHECK.due("result()", s.result(), 0);
        Bodies.define(CHECK, s, 0, 1, "v0");
        s.analyze();
        CHECK.due("result()", s.result(), 0);
        CHECK.run(s, 0, 500, 0, REFUSED, 0);
        CHECK.run(s, 1, 5, 0, REFUSED, 0);
    }
}
