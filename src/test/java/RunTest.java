/** Promise 9: run and result. */
public final class RunTest {
    private static final Check CHECK = new Check();
    private static final int OK = SuccessTyping.RUN_OK;
    private static final int FAIL = SuccessTyping.RUN_FAIL;
    private static final int LIMIT = SuccessTyping.RUN_LIMIT;
    private static final int REFUSED = SuccessTyping.RUN_REFUSED;
    private static final int[] NO_CODES = {Integer.MIN_VALUE, -1000, -100, 100, 999, 1008, 2000,
        Integer.MAX_VALUE};
    private static final String COUNT_DOWN = "v0 i0 = i7 v0 i1 - c0/1 if";

    public static void main(String[] args) {
        refusals();
        literalsAndParameters();
        sums();
        comparisons();
        conditions();
        badCalls();
        argumentsInOrder();
        activeLimit();
        callLimit();
        firstEndingEvent();
        looksAtSlotsAsTheyAreNow();
        changesNothingElse();
        fullPool();
        CHECK.finish();
    }

    private static void refusals() {
        SuccessTyping s = new SuccessTyping(5, 32);
        Bodies.define(CHECK, s, 0, 0, "i5");
        Bodies.define(CHECK, s, 1, 1, "v0");
        Bodies.define(CHECK, s, 2, 2, "v1");
        s.begin(3, 0);
        Bodies.nodes(CHECK, s, "i1");
        CHECK.run(s, 1, 42, 0, OK, 42);
        for (int f : new int[] {Integer.MIN_VALUE, -1, 3, 4, 5, 8, Integer.MAX_VALUE}) {
            CHECK.run(s, f, 0, 0, REFUSED, 42);
        }
        for (int code : NO_CODES) {
            CHECK.run(s, 1, code, 0, REFUSED, 42);
            CHECK.run(s, 2, code, 0, REFUSED, 42);
            CHECK.run(s, 2, 0, code, REFUSED, 42);
            CHECK.run(s, 2, code, code, REFUSED, 42);
        }
        for (int code : NO_CODES) {
            CHECK.run(s, 0, code, code, OK, 5);
            CHECK.run(s, 1, 1003, code, OK, 1003);
        }
    }

    private static void literalsAndParameters() {
        SuccessTyping s = new SuccessTyping(4, 32);
        CHECK.due("result() without a run", s.result(), 0);
        Bodies.define(CHECK, s, 0, 0, "i-99");
        Bodies.define(CHECK, s, 1, 0, "a7");
        Bodies.define(CHECK, s, 2, 2, "v0");
        Bodies.define(CHECK, s, 3, 2, "v1");
        CHECK.run(s, 0, 0, 0, OK, -99);
        CHECK.run(s, 1, 0, 0, OK, 1007);
        for (int code : new int[] {-99, -1, 0, 99, 1000, 1001, 1007}) {
            CHECK.run(s, 2, code, 3, OK, code);
            CHECK.run(s, 3, 1002, code, OK, code);
        }
    }

    private static void sums() {
        SuccessTyping s = new SuccessTyping(2, 32);
        Bodies.define(CHECK, s, 0, 2, "v0 v1 +");
        Bodies.define(CHECK, s, 1, 2, "v0 v1 -");
        CHECK.run(s, 0, 50, 49, OK, 99);
        CHECK.run(s, 0, 50, 50, FAIL, 0);
        CHECK.run(s, 0, -50, -49, OK, -99);
        CHECK.run(s, 0, -50, -50, FAIL, 0);
        CHECK.run(s, 0, 99, -99, OK, 0);
        CHECK.run(s, 1, 5, 7, OK, -2);
        CHECK.run(s, 1, 50, -49, OK, 99);
        CHECK.run(s, 1, 50, -50, FAIL, 0);
        CHECK.run(s, 1, -50, 49, OK, -99);
        CHECK.run(s, 1, -50, 50, FAIL, 0);
        for (int f = 0; f < 2; f++) {
            CHECK.run(s, f, 1000, 1, FAIL, 0);
            CHECK.run(s, f, 1, 1000, FAIL, 0);
            CHECK.run(s, f, 1001, 1001, FAIL, 0);
        }
    }

    private static void comparisons() {
        SuccessTyping s = new SuccessTyping(3, 32);
        Bodies.define(CHECK, s, 0, 2, "v0 v1 <");
        Bodies.define(CHECK, s, 1, 2, "v0 v1 =");
        Bodies.define(CHECK, s, 2, 1, "v0 int?");
        CHECK.run(s, 0, -3, 2, OK, 1001);
        CHECK.run(s, 0, 2, 2, OK, 1000);
        CHECK.run(s, 0, 3, 2, OK, 1000);
        CHECK.run(s, 0, 1000, 1001, FAIL, 0);
        CHECK.run(s, 0, 1, 1001, FAIL, 0);
        CHECK.run(s, 0, 1001, 1, FAIL, 0);
        CHECK.run(s, 1, 5, 5, OK, 1001);
        CHECK.run(s, 1, 5, -5, OK, 1000);
        CHECK.run(s, 1, 1005, 1005, OK, 1001);
        CHECK.run(s, 1, 1005, 1004, OK, 1000);
        CHECK.run(s, 1, 5, 1005, OK, 1000);
        CHECK.run(s, 1, 1000, 0, OK, 1000);
        CHECK.run(s, 2, -99, 0, OK, 1001);
        CHECK.run(s, 2, 99, 0, OK, 1001);
        CHECK.run(s, 2, 1000, 0, OK, 1000);
        CHECK.run(s, 2, 1007, 0, OK, 1000);
    }

    private static void conditions() {
        SuccessTyping s = new SuccessTyping(4, 128);
        Bodies.define(CHECK, s, 0, 1, "v0 i1 i2 if");
        CHECK.run(s, 0, 1001, 0, OK, 1);
        CHECK.run(s, 0, 1000, 0, OK, 2);
        CHECK.run(s, 0, 1002, 0, FAIL, 0);
        CHECK.run(s, 0, 1, 0, FAIL, 0);
        CHECK.run(s, 0, 0, 0, FAIL, 0);
        Bodies.define(CHECK, s, 1, 2, "v0 v1 i1 + v1 if");
        CHECK.run(s, 1, 1001, 1003, FAIL, 0);
        CHECK.run(s, 1, 1000, 1003, OK, 1003);
        CHECK.run(s, 1, 1001, 98, OK, 99);
        CHECK.run(s, 1, 1000, 99, OK, 99);
        // An IF as the condition, as the first branch and as the second branch of another.
        Bodies.define(CHECK, s, 2, 2, "v0 v1 v0 if v0 v1 i1 i2 if i3 if v1 i4 i5 if if");
        CHECK.run(s, 2, 1001, 1001, OK, 1);
        CHECK.run(s, 2, 1001, 1000, OK, 5);
        CHECK.run(s, 2, 1000, 1001, OK, 4);
        CHECK.run(s, 2, 1000, 1000, OK, 5);
        CHECK.run(s, 2, 1001, 1002, FAIL, 0);
        Bodies.define(CHECK, s, 3, 1, "v0 int? v0 i9 < i1 i2 if v0 i3 i4 if if i10 +");
        CHECK.run(s, 3, 5, 0, OK, 11);
        CHECK.run(s, 3, 9, 0, OK, 12);
        CHECK.run(s, 3, 1001, 0, OK, 13);
        CHECK.run(s, 3, 1000, 0, OK, 14);
        CHECK.run(s, 3, 1004, 0, FAIL, 0);
    }

    private static void badCalls() {
        SuccessTyping s = new SuccessTyping(8, 64);
        Bodies.define(CHECK, s, 0, 1, "v0");
        Bodies.define(CHECK, s, 1, 1, "v0 v0 c0/2");
        Bodies.define(CHECK, s, 2, 1, "c0/0");
        Bodies.define(CHECK, s, 3, 1, "v0 c6/1");
        Bodies.define(CHECK, s, 4, 1, "v0 i0 < v0 c6/1 v0 c0/1 if");
        CHECK.run(s, 0, 4, 0, OK, 4);
        CHECK.run(s, 1, 4, 0, FAIL, 0);
        CHECK.run(s, 2, 4, 0, FAIL, 0);
        CHECK.run(s, 3, 4, 0, FAIL, 0);
        CHECK.run(s, 4, 4, 0, OK, 4);
        CHECK.run(s, 4, -4, 0, FAIL, 0);
    }

    private static void argumentsInOrder() {
        SuccessTyping s = new SuccessTyping(4, 64);
        Bodies.define(CHECK, s, 0, 2, "v0 v1 -");
        Bodies.define(CHECK, s, 1, 2, "v1 v0 c0/2 v0 v1 c0/2 i3 + c0/2");
        Bodies.define(CHECK, s, 2, 1, "v0 i1 c0/2 v0 +");
        CHECK.run(s, 1, 10, 4, OK, -15);
        CHECK.run(s, 2, 10, 0, OK, 19);
        Bodies.define(CHECK, s, 3, 2, "v0 i1 < v1 v0 i1 - v1 v0 + c3/2 if");
        CHECK.run(s, 3, 5, 0, OK, 15);
    }

    private static void activeLimit() {
        SuccessTyping s = new SuccessTyping(4, 64);
        Bodies.define(CHECK, s, 0, 1, COUNT_DOWN);
        Bodies.define(CHECK, s, 1, 1, "v0 c0/1 v0 c0/1 +");
        Bodies.define(CHECK, s, 2, 1, "v0 i0 = i1 v0 i1 - c2/1 c3/0 + if");
        Bodies.define(CHECK, s, 3, 0, "i1");
        CHECK.run(s, 0, 15, 0, OK, 7);
        CHECK.run(s, 0, 16, 0, LIMIT, 0);
        CHECK.run(s, 0, 15, 0, OK, 7);
        CHECK.run(s, 1, 14, 0, OK, 14);
        CHECK.run(s, 1, 15, 0, LIMIT, 0);
        CHECK.run(s, 2, 15, 0, OK, 16);
        CHECK.run(s, 2, 16, 0, LIMIT, 0);
        CHECK.run(s, 0, 99, 0, LIMIT, 0);
        CHECK.run(s, 0, -1, 0, LIMIT, 0);
    }

    /** A sum of ten calls makes 10 calls more, and tens of such sums come to the limit. */
    private static SuccessTyping callMaker(int tens, int ones, String last) {
        SuccessTyping s = new SuccessTyping(4, 128);
        Bodies.define(CHECK, s, 0, 0, "i0");
        String nine = "c0/0 c0/0 + c0/0 c0/0 + + c0/0 c0/0 + c0/0 c0/0 + + + c0/0 +";
        Bodies.define(CHECK, s, 1, 0, nine);
        s.begin(2, 0);
        int[] depths = new int[128];
        int pending = 0;
        for (int i = 0; i < tens + ones; i++) {
            CHECK.due("call", Bodies.node(s, i < tens ? "c1/0" : "c0/0"), true);
            depths[pending] = 1;
            pending++;
            // Equal depths are added up at once, so that the sum stays shallow.
            while (pending > 1 && depths[pending - 1] == depths[pending - 2]) {
                CHECK.due("+", Bodies.node(s, "+"), true);
                pending--;
                depths[pending - 1]++;
            }
        }
        for (; pending > 1; pending--) {
            CHECK.due("+", Bodies.node(s, "+"), true);
        }
        if (!last.isEmpty()) {
            Bodies.nodes(CHECK, s, last);
        }
        CHECK.due("end()", s.end(), 2);
        return s;
    }

    private static void callLimit() {
        SuccessTyping s = callMaker(19, 9, "");
        CHECK.run(s, 2, 0, 0, OK, 0);
        CHECK.run(s, 2, 0, 0, OK, 0);
        CHECK.run(s, 1, 0, 0, OK, 0);
        s = callMaker(19, 10, "");
        CHECK.run(s, 2, 0, 0, LIMIT, 0);
        CHECK.run(s, 1, 0, 0, OK, 0);
        CHECK.run(s, 2, 0, 0, LIMIT, 0);
        s = callMaker(19, 9, "i5 +");
        CHECK.run(s, 2, 0, 0, OK, 5);
        // A bad call is a FAIL even where no call may be made any more.
        s = callMaker(19, 9, "c3/0 +");
        CHECK.run(s, 2, 0, 0, FAIL, 0);
        s = callMaker(19, 9, "i1 c0/1 +");
        CHECK.run(s, 2, 0, 0, FAIL, 0);
        s = callMaker(19, 9, "c0/0 +");
        CHECK.run(s, 2, 0, 0, LIMIT, 0);
    }

    private static void firstEndingEvent() {
        SuccessTyping s = new SuccessTyping(8, 128);
        Bodies.define(CHECK, s, 0, 1, COUNT_DOWN);
        Bodies.define(CHECK, s, 1, 0, "a0 i20 c0/1 +");
        Bodies.define(CHECK, s, 2, 0, "a0 i1 + i20 c0/1 +");
        Bodies.define(CHECK, s, 3, 0, "i20 c0/1 a0 i1 + +");
        Bodies.define(CHECK, s, 4, 1, "v0 i0 = c7/0 v0 i1 - c4/1 if");
        Bodies.define(CHECK, s, 5, 0, "i20 c0/1 c7/1");
        Bodies.define(CHECK, s, 6, 0, "i20 c0/1 i1 i2 if");
        CHECK.run(s, 1, 0, 0, LIMIT, 0);
        CHECK.run(s, 2, 0, 0, FAIL, 0);
        CHECK.run(s, 3, 0, 0, LIMIT, 0);
        CHECK.run(s, 4, 15, 0, FAIL, 0);
        CHECK.run(s, 4, 16, 0, LIMIT, 0);
        CHECK.run(s, 5, 0, 0, LIMIT, 0);
        CHECK.run(s, 6, 0, 0, LIMIT, 0);
    }

    private static void looksAtSlotsAsTheyAreNow() {
        SuccessTyping s = new SuccessTyping(2, 32);
        Bodies.define(CHECK, s, 0, 0, "c1/0");
        CHECK.run(s, 0, 0, 0, FAIL, 0);
        s.analyze();
        s.begin(1, 0);
        Bodies.nodes(CHECK, s, "i3");
        CHECK.run(s, 0, 0, 0, FAIL, 0);
        CHECK.due("end()", s.end(), 1);
        CHECK.run(s, 0, 0, 0, OK, 3);
    }

    private static void changesNothingElse() {
        SuccessTyping s = new SuccessTyping(3, 64);
        Bodies.define(CHECK, s, 0, 1, COUNT_DOWN);
        s.analyze();
        s.begin(1, 2);
        Bodies.nodes(CHECK, s, "v0 v1");
        s.run(0, 1003, 0);
        String before = Snapshot.of(s);
        CHECK.due("run(0, 20, 0)", s.run(0, 20, 0), LIMIT);
        CHECK.due("run(0, 1000, 0)", s.run(0, 1000, 0), FAIL);
        CHECK.due("run(5, 1000, 0)", s.run(5, 1000, 0), REFUSED);
        CHECK.due("the object after run()", Snapshot.of(s), before);
        CHECK.run(s, 0, 3, 0, OK, 7);
        CHECK.run(s, 0, 500, 0, REFUSED, 7);
        CHECK.run(s, 0, 20, 0, LIMIT, 0);
    }

    private static void fullPool() {
        SuccessTyping s = new SuccessTyping(8, 128);
        s.begin(7, 1);
        Bodies.nodes(CHECK, s, "v0");
        for (int i = 1; i < 64; i++) {
            Bodies.nodes(CHECK, s, "i1");
            // As many sums as i has trailing ones keep the tree balanced.
            for (int bits = i; bits % 2 == 1; bits /= 2) {
                Bodies.nodes(CHECK, s, "+");
            }
        }
        Bodies.nodes(CHECK, s, "int?");
        CHECK.due("bodySize(7)", s.bodySize(7), 128);
        CHECK.due("node(0, 1, 0)", s.node(0, 1, 0), false);
        CHECK.due("end()", s.end(), 7);
        CHECK.run(s, 7, 36, 0, OK, 1001);
        CHECK.run(s, 7, 37, 0, FAIL, 0);
        CHECK.due("analyze()", s.analyze(), 0);
        CHECK.ints(s, 7, 0);
        CHECK.mask(s, 7, 2, 2);
    }
}
