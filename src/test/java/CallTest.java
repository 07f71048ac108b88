/** Promise 9, with "Evaluation": CALL, its limits, and which ending event comes first. */
public final class CallTest {
    private static final Check CHECK = new Check();
    private static final int OK = SuccessTyping.RUN_OK;
    private static final int FAIL = SuccessTyping.RUN_FAIL;
    private static final int LIMIT = SuccessTyping.RUN_LIMIT;
    /** In an object of made(), these make 199 calls of the 200 with the top call, and give 0. */
    private static final String CALLS_199 = "i6 c1/1 i5 c1/1 + i2 c1/1 + c2/0 +";
    private static final String FAILS = "a0 i1 +";
    private static final String LIMITS = "i30 c0/1";

    public static void main(String[] args) {
        CHECK.sentence("CALL g with k children first evaluates the children left to right.",
            CallTest::childrenFirst);
        CHECK.sentence("FAIL if slot g is not DEFINED now", CallTest::notDefined);
        CHECK.sentence("or if k differs from g's arity", CallTest::wrongArity);
        CHECK.sentence("else LIMIT if CALL_LIMIT calls have already been made in this run",
            CallTest::callLimit);
        CHECK.sentence("else LIMIT if ACTIVE_LIMIT calls are active", CallTest::activeLimit);
        CHECK.sentence("FAIL ... else LIMIT: a bad call fails even where a limit is reached",
            CallTest::failBeforeLimit);
        CHECK.sentence("One more call counts as made", CallTest::countsEveryCall);
        CHECK.sentence("and one more as active.", CallTest::countsActiveCalls);
        CHECK.sentence("with the children's values as its parameters 0 and 1.",
            CallTest::parameters);
        CHECK.sentence("The call then stops being active", CallTest::stopsBeingActive);
        CHECK.sentence("and the body's value is the value of the CALL.", CallTest::valueOfCall);
        CHECK.sentence("The first FAIL or LIMIT ends the run at once.", CallTest::firstEndingEvent);
        CHECK.sentence("This top call is call number 1 made in the run, and it is active.",
            CallTest::topCall);
        CHECK.sentence("Call counts start afresh in each run.", CallTest::startsAfresh);
        CHECK.finish();
    }

    /**
     * Slot 0 counts down to 0 and gives 7. Slot 1 makes 2^(x+1) - 1 calls and gives 0: 127 for 6, 63
     * for 5, 7 for 2. Slot 2 gives 0, slot 3 its first parameter, and slot 7 has no body. The body is
     * that of slot 4.
     */
    private static SuccessTyping made(int arity, String body) {
        SuccessTyping s = new SuccessTyping(8, 128);
        Bodies.define(CHECK, s, 0, 1, "v0 i0 = i7 v0 i1 - c0/1 if");
        Bodies.define(CHECK, s, 1, 1, "v0 i0 = i0 v0 i1 - c1/1 v0 i1 - c1/1 + if");
        Bodies.define(CHECK, s, 2, 0, "i0");
        Bodies.define(CHECK, s, 3, 2, "v0");
        Bodies.define(CHECK, s, 4, arity, body);
        return s;
    }

    private static void gives(String body, int value) {
        CHECK.run(made(0, body), 4, 0, 0, OK, value);
    }

    private static void ends(String body, int outcome) {
        CHECK.run(made(0, body), 4, 0, 0, outcome, 0);
    }

    private static void childrenFirst() {
        ends(FAILS + " " + LIMITS + " c3/2", FAIL);
        ends(LIMITS + " " + FAILS + " c3/2", LIMIT);
        // The children end the run before the call is looked at.
        ends(LIMITS + " c7/1", LIMIT);
        ends(FAILS + " c7/1", FAIL);
        ends("i1 " + LIMITS + " c7/2", LIMIT);
        ends(LIMITS + " c2/1", LIMIT);
        ends("i1 " + LIMITS + " c0/2", LIMIT);
        // The 200th call is a child's, so that none is left for the call itself.
        ends(CALLS_199 + " c2/0 i1 c3/2 +", LIMIT);
        ends(CALLS_199 + " c2/0 + " + FAILS + " c0/1 +", FAIL);
    }

    private static void notDefined() {
        ends("c7/0", FAIL);
        ends("i1 c7/1", FAIL);
        ends("i1 i2 c7/2", FAIL);
        String[] bodies = {"c1/0", "i1 c1/1", "i1 i2 c1/2"};
        for (int k = 0; k <= 2; k++) {
            SuccessTyping s = new SuccessTyping(2, 32);
            Bodies.define(CHECK, s, 0, 0, bodies[k]);
            CHECK.run(s, 0, 0, 0, FAIL, 0);
            s.begin(1, k);
            CHECK.run(s, 0, 0, 0, FAIL, 0);
            Bodies.nodes(CHECK, s, "i3");
            s.analyze();
            CHECK.run(s, 0, 0, 0, FAIL, 0);
            Bodies.nodes(CHECK, s, "i4");
            s.end();
            CHECK.run(s, 0, 0, 0, FAIL, 0);
            // What counts is the state now, not when the summaries were made.
            Bodies.define(CHECK, s, 1, k, "i3");
            CHECK.run(s, 0, 0, 0, OK, 3);
        }
    }

    private static void wrongArity() {
        String[] bodies = {"c0/0", "i1 c0/1", "i1 i2 c0/2"};
        for (int arity = 0; arity <= 2; arity++) {
            for (int k = 0; k <= 2; k++) {
                SuccessTyping s = new SuccessTyping(2, 32);
                Bodies.define(CHECK, s, 0, arity, "i3");
                Bodies.define(CHECK, s, 1, 0, bodies[k]);
                CHECK.run(s, 1, 0, 0, k == arity ? OK : FAIL, k == arity ? 3 : 0);
            }
        }
        // A function that calls itself with too few or too many.
        CHECK.run(made(1, "v0 v0 c4/2"), 4, 1, 0, FAIL, 0);
        CHECK.run(made(1, "c4/0"), 4, 1, 0, FAIL, 0);
    }

    private static void callLimit() {
        gives(CALLS_199, 0);
        gives(CALLS_199 + " c2/0 +", 0);
        ends(CALLS_199 + " c2/0 + c2/0 +", LIMIT);
        gives(CALLS_199 + " i3 i4 c3/2 +", 3);
        ends(CALLS_199 + " c2/0 + i3 i4 c3/2 +", LIMIT);
        // Without a further call the run goes on after the 200th.
        gives(CALLS_199 + " c2/0 + i5 + i1 - int?", 1001);
        CHECK.run(made(0, "i2"), 1, 6, 0, OK, 0);
        CHECK.run(made(0, "i2"), 1, 7, 0, LIMIT, 0);
        CHECK.run(made(0, "i2"), 1, 15, 0, LIMIT, 0);
    }

    private static void activeLimit() {
        SuccessTyping s = made(1, "v0 c0/1");
        CHECK.run(s, 0, 14, 0, OK, 7);
        CHECK.run(s, 0, 15, 0, OK, 7);
        CHECK.run(s, 0, 16, 0, LIMIT, 0);
        CHECK.run(s, 0, 17, 0, LIMIT, 0);
        CHECK.run(s, 4, 14, 0, OK, 7);
        CHECK.run(s, 4, 15, 0, LIMIT, 0);
        // In two functions that call each other.
        s = new SuccessTyping(2, 64);
        Bodies.define(CHECK, s, 0, 1, "v0 i0 = a1 v0 i1 - c1/1 if");
        Bodies.define(CHECK, s, 1, 1, "v0 i0 = a0 v0 i1 - c0/1 if");
        CHECK.run(s, 0, 15, 0, OK, 1000);
        CHECK.run(s, 1, 15, 0, OK, 1001);
        CHECK.run(s, 0, 16, 0, LIMIT, 0);
        CHECK.run(s, 1, 16, 0, LIMIT, 0);
    }

    private static void failBeforeLimit() {
        String reached = CALLS_199 + " c2/0 + ";
        ends(reached + "c7/0 +", FAIL);
        ends(reached + "i1 c7/1 +", FAIL);
        ends(reached + "i1 c2/1 +", FAIL);
        ends(reached + "c0/0 +", FAIL);
        ends(reached + "i1 c3/1 +", FAIL);
        ends(reached + "c2/0 +", LIMIT);
        String[] badCalls = {"c7/0", "v0 c7/1", "v0 c2/1", "v0 v0 c0/2", "c4/0"};
        for (String bad : badCalls) {
            SuccessTyping s = made(1, "v0 i0 = " + bad + " v0 i1 - c4/1 if");
            CHECK.run(s, 4, 14, 0, FAIL, 0);
            CHECK.run(s, 4, 15, 0, FAIL, 0);
            CHECK.run(s, 4, 16, 0, LIMIT, 0);
        }
        SuccessTyping s = made(1, "v0 i0 = c2/0 v0 i1 - c4/1 if");
        CHECK.run(s, 4, 14, 0, OK, 0);
        CHECK.run(s, 4, 15, 0, LIMIT, 0);
    }

    private static void countsEveryCall() {
        // Calls that have returned stay counted; those of a branch not taken are none.
        gives("a1 i0 " + CALLS_199 + " c2/0 + c2/0 + if", 0);
        gives("a1 i0 c2/0 if " + CALLS_199 + " + c2/0 +", 0);
        ends("a0 i0 c2/0 if " + CALLS_199 + " + c2/0 +", LIMIT);
        gives("a0 i0 c2/0 if " + CALLS_199 + " +", 0);
        // A function without parameters counts like others, and so does one with two.
        ends("i1 i2 c3/2 " + CALLS_199 + " + c2/0 +", LIMIT);
        gives("i1 i2 c3/2 " + CALLS_199 + " +", 1);
    }

    private static void countsActiveCalls() {
        SuccessTyping s = made(1, "v0 i0 = i7 v0 i1 - i1 c3/2 c4/1 if");
        CHECK.run(s, 4, 14, 0, OK, 7);
        CHECK.run(s, 4, 15, 0, OK, 7);
        CHECK.run(s, 4, 16, 0, LIMIT, 0);
        // Calls within arguments are active beside the caller's alone.
        s = made(1, "v0 c0/1 i0 - c0/1");
        CHECK.run(s, 4, 14, 0, OK, 7);
        CHECK.run(s, 4, 15, 0, LIMIT, 0);
    }

    private static void parameters() {
        SuccessTyping s = new SuccessTyping(4, 64);
        Bodies.define(CHECK, s, 0, 2, "v0 v1 -");
        Bodies.define(CHECK, s, 1, 2, "v1 v0 c0/2 v0 v1 c0/2 i3 + c0/2");
        Bodies.define(CHECK, s, 2, 1, "v0 i1 c0/2 v0 +");
        Bodies.define(CHECK, s, 3, 2, "v0 i1 < v1 v0 i1 - v1 v0 + c3/2 if");
        CHECK.run(s, 0, 9, 2, OK, 7);
        CHECK.run(s, 1, 10, 4, OK, -15);
        CHECK.run(s, 2, 10, 0, OK, 19);
        CHECK.run(s, 3, 5, 0, OK, 15);
        gives("a5 i1 c3/2", 1005);
        gives("i-99 a1 c3/2", -99);
    }

    private static void stopsBeingActive() {
        SuccessTyping s = made(1, "v0 c0/1 v0 c0/1 + v0 c0/1 + v0 c0/1 +");
        CHECK.run(s, 4, 14, 0, OK, 28);
        CHECK.run(s, 4, 15, 0, LIMIT, 0);
        gives("c2/0 c2/0 + c2/0 + c2/0 + c2/0 c2/0 + c2/0 + c2/0 + + c2/0 c2/0 + c2/0 + c2/0 + +"
            + " c2/0 c2/0 + c2/0 + c2/0 + + c2/0 c2/0 + c2/0 + c2/0 + +", 0);
        s = made(1, "v0 i0 = i1 v0 i1 - c4/1 c2/0 + i1 + if");
        CHECK.run(s, 4, 15, 0, OK, 16);
        CHECK.run(s, 4, 16, 0, LIMIT, 0);
    }

    private static void valueOfCall() {
        gives("i5 c0/1", 7);
        gives("i5 c0/1 i1 +", 8);
        gives("a6 i0 c3/2", 1006);
        gives("a1 i0 c3/2 i10 i20 if", 10);
        gives("a0 i0 c3/2 i10 i20 if", 20);
        ends("a6 i0 c3/2 i10 i20 if", FAIL);
        ends("a6 i0 c3/2 i1 +", FAIL);
        gives("a1 i4 i0 c3/2 i20 if", 4);
        gives("a0 i20 i4 i0 c3/2 if", 4);
    }

    private static void firstEndingEvent() {
        ends(FAILS + " " + LIMITS + " +", FAIL);
        ends(LIMITS + " " + FAILS + " +", LIMIT);
        ends("a0 " + LIMITS + " +", LIMIT);
        ends(LIMITS + " i1 i2 if", LIMIT);
        ends(LIMITS + " c7/0 +", LIMIT);
        ends("c7/0 " + LIMITS + " +", FAIL);
        // Deep within other calls.
        SuccessTyping s = made(1, "v0 i0 = a0 v0 i1 - c4/1 if i1 +");
        CHECK.run(s, 4, 0, 0, FAIL, 0);
        CHECK.run(s, 4, 15, 0, FAIL, 0);
        CHECK.run(s, 4, 16, 0, LIMIT, 0);
        // An endless recursion that makes a sum fail on its way down, before any limit.
        s = made(1, "v0 i9 + c4/1");
        CHECK.run(s, 4, 0, 0, FAIL, 0);
        CHECK.run(s, 4, -99, 0, LIMIT, 0);
    }

    private static void topCall() {
        // With the top call not counted, one call more would be made, or one deeper.
        gives(CALLS_199 + " c2/0 +", 0);
        ends(CALLS_199 + " c2/0 + c2/0 +", LIMIT);
        CHECK.run(made(0, "i2"), 0, 15, 0, OK, 7);
        CHECK.run(made(0, "i2"), 0, 16, 0, LIMIT, 0);
    }

    private static void startsAfresh() {
        SuccessTyping s = made(0, CALLS_199 + " c2/0 +");
        for (int i = 0; i < 3; i++) {
            CHECK.run(s, 4, 0, 0, OK, 0);
            CHECK.run(s, 1, 7, 0, LIMIT, 0);
            CHECK.run(s, 1, 6, 0, OK, 0);
            CHECK.run(s, 0, 16, 0, LIMIT, 0);
            CHECK.run(s, 0, 15, 0, OK, 7);
        }
    }
}
