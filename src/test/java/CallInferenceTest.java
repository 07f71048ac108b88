/** Promise 5: the rule for CALL, STEP, and the least table. */
public final class CallInferenceTest {
    private static final Check CHECK = new Check();
    private static final Infer INFER = new Infer(CHECK);

    public static void main(String[] args) {
        CHECK.sentence("(r0, e1) = A(x0, env), then (r1, e2) = A(x1, e1), as many as k.",
            CallInferenceTest::argumentsInOrder);
        CHECK.sentence("BOT if g was not DEFINED when analyze() began", CallInferenceTest::undefined);
        CHECK.sentence("or if k differs from g's arity.", CallInferenceTest::wrongArity);
        CHECK.sentence("BOT if meet(ri, T[g].Pi) is EMPTY", CallInferenceTest::outsideDomain);
        CHECK.sentence("if xi is VAR j, e[j] := meet(e[j], T[g].Pi).", CallInferenceTest::narrows);
        CHECK.sentence("for i = 0 .. k-1 in order", CallInferenceTest::narrowsInOrder);
        CHECK.sentence("The result is (T[g].R, e).", CallInferenceTest::givesResult);
        CHECK.sentence("STEP: k copies of ANY", CallInferenceTest::startsWithAny);
        CHECK.sentence("STEP: Pj = EMPTY for k <= j <= 1", CallInferenceTest::emptyPastArity);
        CHECK.sentence("STEP: Otherwise (BOT, or f not DEFINED): all three types are EMPTY.",
            CallInferenceTest::bottomIsAllEmpty);
        CHECK.sentence("each of its types is within the same type of any such table.",
            CallInferenceTest::leastTable);
        CHECK.sentence("applying STEP until nothing changes.", CallInferenceTest::longChains);
        CHECK.finish();
    }

    private static void argumentsInOrder() {
        SuccessTyping s = new SuccessTyping(8, 128);
        Bodies.define(CHECK, s, 0, 2, "v1");
        Bodies.define(CHECK, s, 1, 1, "v0 i1 + v0 c0/2");
        Bodies.define(CHECK, s, 2, 1, "v0 v0 i1 + c0/2");
        Bodies.define(CHECK, s, 3, 1, "v0 i1 + v0 i1 i2 if c0/2");
        Bodies.define(CHECK, s, 4, 1, "v0 i1 + v0 int? a5 c7/0 if c0/2");
        Bodies.define(CHECK, s, 5, 0, "a0 i1 + i1 c0/2");
        Bodies.define(CHECK, s, 6, 0, "i1 a0 i1 + c0/2");
        CHECK.due("analyze()", s.analyze(), 3);
        CHECK.ints(s, 1, 0);
        CHECK.any(s, 1, 2);
        CHECK.ints(s, 2, 0);
        CHECK.allEmpty(s, 3);
        CHECK.ints(s, 4, 0);
        CHECK.allEmpty(s, 5);
        CHECK.allEmpty(s, 6);
        // Without children the env is the one before.
        INFER.givesNothing(1, "c0/0");
        s = new SuccessTyping(2, 16);
        Bodies.define(CHECK, s, 0, 0, "a5");
        Bodies.define(CHECK, s, 1, 2, "v0 i1 < c0/0 a6 if");
        s.analyze();
        CHECK.ints(s, 1, 0);
        CHECK.any(s, 1, 1);
        CHECK.mask(s, 1, 2, 96);
    }

    private static void undefined() {
        String[] bodies = {"c1/0", "i1 c1/1", "i1 i2 c1/2"};
        for (int k = 0; k <= 2; k++) {
            SuccessTyping s = new SuccessTyping(2, 32);
            Bodies.define(CHECK, s, 0, 0, bodies[k]);
            CHECK.due("analyze()", s.analyze(), 1);
            s.begin(1, k);
            CHECK.due("analyze() with an empty body", s.analyze(), 1);
            Bodies.nodes(CHECK, s, "a3");
            CHECK.due("analyze() with a whole body", s.analyze(), 1);
            CHECK.allEmpty(s, 0);
            s.end();
            CHECK.allEmpty(s, 0);
            CHECK.due("analyze() after end()", s.analyze(), 0);
            CHECK.mask(s, 0, 2, 8);
        }
    }

    private static void wrongArity() {
        String[] bodies = {"c0/0", "i1 c0/1", "i1 i2 c0/2"};
        for (int arity = 0; arity <= 2; arity++) {
            for (int given = 0; given <= 2; given++) {
                SuccessTyping s = new SuccessTyping(2, 32);
                Bodies.define(CHECK, s, 0, arity, "i3");
                Bodies.define(CHECK, s, 1, 0, bodies[given]);
                CHECK.due("analyze()", s.analyze(), arity == given ? 0 : 1);
                CHECK.due("intLo(1, 2)", s.intLo(1, 2), arity == given ? 3 : SuccessTyping.NO_INT);
            }
        }
    }

    /** Slot 0 takes a truth value and an integer. */
    private static SuccessTyping choice() {
        SuccessTyping s = new SuccessTyping(8, 128);
        Bodies.define(CHECK, s, 0, 2, "v0 v1 i1 + v1 i2 + if");
        return s;
    }

    private static void outsideDomain() {
        String[] bodies = {"a0 i7 c0/2", "a1 i-99 c0/2", "a2 i7 c0/2", "i1 i7 c0/2", "a1 a1 c0/2",
            "i7 a1 c0/2", "a7 i7 c0/2"};
        boolean[] fits = {true, true, false, false, false, false, false};
        for (int i = 0; i < bodies.length; i++) {
            SuccessTyping s = choice();
            Bodies.define(CHECK, s, 1, 0, bodies[i]);
            CHECK.due("analyze() of '" + bodies[i] + "'", s.analyze(), fits[i] ? 0 : 1);
        }
        // A type that is only partly inside is enough.
        SuccessTyping s = choice();
        Bodies.define(CHECK, s, 1, 1, "v0 a1 a5 if i7 c0/2");
        Bodies.define(CHECK, s, 2, 1, "a0 v0 i7 a5 if c0/2");
        Bodies.define(CHECK, s, 3, 1, "v0 a4 a5 if i7 c0/2");
        CHECK.due("analyze()", s.analyze(), 1);
        CHECK.ints(s, 1, 2);
        CHECK.ints(s, 2, 2);
        CHECK.allEmpty(s, 3);
    }

    private static void narrows() {
        SuccessTyping s = choice();
        Bodies.define(CHECK, s, 1, 2, "v1 v0 c0/2");
        Bodies.define(CHECK, s, 2, 1, "v0 i7 c0/2");
        Bodies.define(CHECK, s, 3, 1, "a0 v0 c0/2");
        Bodies.define(CHECK, s, 4, 1, "a0 v0 c0/2 v0 int? =");
        Bodies.define(CHECK, s, 5, 1, "a1 v0 i0 if i7 c0/2");
        Bodies.define(CHECK, s, 6, 2, "i5 v1 c1/2");
        CHECK.due("analyze()", s.analyze(), 0);
        CHECK.mask(s, 0, 0, 3);
        CHECK.ints(s, 0, 1);
        CHECK.ints(s, 1, 0);
        CHECK.mask(s, 1, 1, 3);
        CHECK.mask(s, 2, 0, 3);
        CHECK.ints(s, 3, 0);
        CHECK.ints(s, 4, 0);
        CHECK.mask(s, 4, 2, 1);
        CHECK.any(s, 5, 0);
        CHECK.any(s, 6, 0);
        CHECK.mask(s, 6, 1, 3);
    }

    /** Both types are taken before the CALL narrows, so only the entry shows the clash. */
    private static void narrowsInOrder() {
        SuccessTyping s = choice();
        Bodies.define(CHECK, s, 1, 1, "v0 v0 c0/2");
        Bodies.define(CHECK, s, 2, 2, "v1 v1 c0/2");
        Bodies.define(CHECK, s, 3, 2, "v0 v1 c0/2");
        Bodies.define(CHECK, s, 4, 1, "v0 v0 i1 + c0/2");
        Bodies.define(CHECK, s, 5, 1, "v0 v0 i1 i2 if c0/2");
        CHECK.due("analyze()", s.analyze(), 3);
        CHECK.allEmpty(s, 1);
        CHECK.allEmpty(s, 2);
        CHECK.mask(s, 3, 0, 3);
        CHECK.ints(s, 3, 1);
        CHECK.allEmpty(s, 4);
        CHECK.mask(s, 5, 0, 3);
    }

    /** The result is that of the function for all arguments, not for those of this CALL. */
    private static void givesResult() {
        SuccessTyping s = new SuccessTyping(4, 64);
        Bodies.define(CHECK, s, 0, 1, "v0 i-3 a6 if");
        Bodies.define(CHECK, s, 1, 0, "a1 c0/1");
        Bodies.define(CHECK, s, 2, 1, "v0 i1 + c3/1");
        Bodies.define(CHECK, s, 3, 1, "v0");
        s.analyze();
        CHECK.type(s, 1, 2, 64, -3, -3);
        CHECK.any(s, 2, 2);
        CHECK.ints(s, 2, 0);
    }

    private static void startsWithAny() {
        for (int arity = 1; arity <= 2; arity++) {
            SuccessTyping s = Bodies.inferred(CHECK, arity, "i1");
            for (int j = 0; j < arity; j++) {
                CHECK.any(s, 0, j);
            }
        }
        // What other slots call it with says nothing about its parameters.
        SuccessTyping s = new SuccessTyping(2, 16);
        Bodies.define(CHECK, s, 0, 1, "v0");
        Bodies.define(CHECK, s, 1, 0, "i5 c0/1");
        s.analyze();
        CHECK.any(s, 0, 0);
        CHECK.any(s, 1, 2);
    }

    private static void emptyPastArity() {
        SuccessTyping s = Bodies.inferred(CHECK, 0, "i1");
        CHECK.empty(s, 0, 0);
        CHECK.empty(s, 0, 1);
        CHECK.range(s, 0, 2, 1, 1);
        s = Bodies.inferred(CHECK, 1, "v0");
        CHECK.any(s, 0, 0);
        CHECK.empty(s, 0, 1);
        s = Bodies.inferred(CHECK, 2, "v0");
        CHECK.any(s, 0, 0);
        CHECK.any(s, 0, 1);
    }

    private static void bottomIsAllEmpty() {
        for (int arity = 0; arity <= 2; arity++) {
            INFER.givesNothing(arity, "i1 a1 +");
            INFER.givesNothing(arity, "i5 c7/1");
        }
        SuccessTyping s = Bodies.inferred(CHECK, 2, "v0 v1 +");
        for (int f = 1; f < 8; f++) {
            CHECK.allEmpty(s, f);
        }
    }

    private static void leastTable() {
        INFER.givesNothing(1, "v0 c0/1");
        INFER.givesNothing(0, "c0/0");
        SuccessTyping s = new SuccessTyping(8, 128);
        Bodies.define(CHECK, s, 0, 1, "v0 i1 < i0 v0 i1 - c0/1 if");
        Bodies.define(CHECK, s, 1, 1, "v0 i0 = a1 v0 i1 - c2/1 if");
        Bodies.define(CHECK, s, 2, 1, "v0 i0 = a0 v0 i1 - c1/1 if");
        Bodies.define(CHECK, s, 3, 1, "v0 c4/1");
        Bodies.define(CHECK, s, 4, 1, "v0 c3/1");
        Bodies.define(CHECK, s, 5, 1, "v0 i1 < i0 v0 i1 - c5/1 i1 + if");
        Bodies.define(CHECK, s, 6, 1, "v0 i1 < i0 v0 i1 - c6/1 i1 - if");
        Bodies.define(CHECK, s, 7, 1, "v0 int? v0 v0 c7/1 if");
        CHECK.due("analyze()", s.analyze(), 2);
        CHECK.ints(s, 0, 0);
        CHECK.range(s, 0, 2, 0, 0);
        CHECK.any(s, 1, 0);
        CHECK.mask(s, 1, 2, 3);
        CHECK.any(s, 2, 0);
        CHECK.mask(s, 2, 2, 3);
        CHECK.allEmpty(s, 3);
        CHECK.allEmpty(s, 4);
        CHECK.range(s, 5, 2, 0, 99);
        CHECK.range(s, 6, 2, -99, 0);
        CHECK.ints(s, 7, 0);
        CHECK.ints(s, 7, 2);
    }

    /** Some types grow by one bound or atom each time round, through all slots. */
    private static void longChains() {
        SuccessTyping s = new SuccessTyping(8, 128);
        Bodies.define(CHECK, s, 0, 0, "a1 a1 = i0 c1/0 i1 - if");
        for (int f = 1; f < 8; f++) {
            int next = (f + 1) % 8;
            Bodies.define(CHECK, s, f, 0, "a1 a1 = a" + f + " c" + next + "/0 if");
        }
        CHECK.due("analyze()", s.analyze(), 0);
        CHECK.type(s, 0, 2, 0, -99, 0);
        for (int f = 1; f < 8; f++) {
            CHECK.type(s, f, 2, 256 - (1 << f), -99, 0);
        }
        s = new SuccessTyping(8, 128);
        Bodies.define(CHECK, s, 7, 0, "a1 a1 = i-8 c0/0 i1 + if");
        for (int f = 0; f < 7; f++) {
            Bodies.define(CHECK, s, f, 0, "c" + (f + 1) + "/0");
        }
        CHECK.due("analyze()", s.analyze(), 0);
        for (int f = 0; f < 8; f++) {
            CHECK.range(s, f, 2, -8, 99);
        }
        longestChain();
    }

    /** The integers grow from -8 to 8 first, and from there on atom after atom. */
    private static void longestChain() {
        String atoms = "c0/0 i8 = a0";
        for (int a = 0; a < 6; a++) {
            atoms += " c0/0 a" + a + " = a" + (a + 1);
        }
        String body = "a1 a1 = a1 a1 = i-8 c0/0 i1 + if " + atoms + " i-8" + " if".repeat(8);
        SuccessTyping s = new SuccessTyping(8, 128);
        for (int f = 0; f < 7; f++) {
            Bodies.define(CHECK, s, f, 0, "c" + (f + 1) + "/0");
        }
        Bodies.define(CHECK, s, 7, 0, body);
        CHECK.due("analyze()", s.analyze(), 0);
        for (int f = 0; f < 8; f++) {
            CHECK.type(s, f, 2, 127, -8, 99);
        }
    }
}
