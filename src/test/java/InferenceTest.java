/** Promise 5: the rules of abstract evaluation, one by one, and the least table. */
public final class InferenceTest {
    private static final Check CHECK = new Check();

    public static void main(String[] args) {
        literals();
        sums();
        comparisons();
        queries();
        variablesOfNumericNodes();
        conditions();
        branches();
        environmentsFlowLeftToRight();
        staleTypes();
        callsThatNeverReturn();
        callsNarrow();
        leastTables();
        longChains();
        CHECK.finish();
    }

    private static void gives(int arity, String body, int mask, int lo, int hi) {
        int wrong = CHECK.wrongSoFar();
        SuccessTyping s = Bodies.inferred(CHECK, arity, body);
        CHECK.type(s, 0, 2, mask, lo, hi);
        if (CHECK.wrongSoFar() != wrong) {
            System.out.println("  that was '" + body + "'");
        }
    }

    private static void givesMask(int arity, String body, int mask) {
        gives(arity, body, mask, SuccessTyping.NO_INT, SuccessTyping.NO_INT);
    }

    private static void givesRange(int arity, String body, int lo, int hi) {
        gives(arity, body, 0, lo, hi);
    }

    private static void givesNothing(int arity, String body) {
        SuccessTyping s = Bodies.inferred(CHECK, arity, body);
        for (int which = 0; which < 3; which++) {
            CHECK.empty(s, 0, which);
        }
        CHECK.due("analyze() of '" + body + "'", s.analyze(), 1);
    }

    private static void takes(String body, int mask, int lo, int hi) {
        SuccessTyping s = Bodies.inferred(CHECK, 1, body);
        CHECK.type(s, 0, 0, mask, lo, hi);
        CHECK.empty(s, 0, 1);
    }

    private static void literals() {
        for (int c = -99; c <= 99; c++) {
            int lo = c < -8 ? -99 : c > 8 ? 8 : c;
            int hi = c > 8 ? 99 : c < -8 ? -8 : c;
            givesRange(0, "i" + c, lo, hi);
        }
        for (int a = 0; a < 8; a++) {
            givesMask(0, "a" + a, 1 << a);
        }
        SuccessTyping s = Bodies.inferred(CHECK, 2, "v1");
        CHECK.any(s, 0, 0);
        CHECK.any(s, 0, 1);
        CHECK.any(s, 0, 2);
        s = Bodies.inferred(CHECK, 0, "a7");
        CHECK.empty(s, 0, 0);
        CHECK.empty(s, 0, 1);
    }

    private static void sums() {
        givesRange(0, "i5 i3 +", 8, 8);
        givesRange(0, "i5 i4 +", 8, 99);
        givesRange(0, "i-5 i-3 +", -8, -8);
        givesRange(0, "i-5 i-4 +", -99, -8);
        givesRange(0, "i99 i99 +", 8, 99);
        givesRange(0, "i-99 i-99 +", -99, -8);
        givesRange(0, "i50 i-50 +", -99, 99);
        givesRange(0, "i9 i-8 +", 0, 99);
        givesRange(0, "i3 i5 -", -2, -2);
        givesRange(0, "i-8 i1 -", -99, -8);
        givesRange(0, "i8 i-1 -", 8, 99);
        givesRange(0, "i8 i9 -", -99, 0);
        givesRange(0, "i-99 i99 -", -99, -8);
        givesRange(0, "i99 i-99 -", 8, 99);
        givesRange(1, "v0 i1 i3 if v0 i-2 i5 if +", -1, 8);
        givesRange(1, "v0 i1 i3 if v0 i-2 i5 if -", -4, 5);
        givesRange(2, "v0 v1 +", -99, 99);
        givesRange(2, "v0 v1 -", -99, 99);
        givesNothing(0, "i1 a1 +");
        givesNothing(0, "a1 i1 +");
        givesNothing(0, "a0 a0 -");
    }

    private static void comparisons() {
        givesMask(0, "i1 i2 <", 2);
        givesMask(0, "i2 i1 <", 1);
        givesMask(0, "i2 i2 <", 1);
        givesMask(0, "i50 i60 <", 3);
        givesMask(0, "i8 i9 <", 3);
        givesMask(0, "i7 i9 <", 2);
        givesMask(0, "i-9 i-8 <", 3);
        givesMask(0, "i-8 i-9 <", 1);
        givesMask(1, "v0 i1 i3 if i2 <", 3);
        givesMask(1, "v0 i1 i3 if i1 <", 1);
        givesMask(1, "v0 i1 i3 if i4 <", 2);
        givesMask(1, "v0 i1 i3 if i3 <", 3);
        givesNothing(0, "i1 a1 <");
        givesNothing(0, "a1 i1 <");
    }

    private static void queries() {
        givesMask(0, "i1 i2 =", 1);
        givesMask(0, "i1 i1 =", 3);
        givesMask(0, "a0 i0 =", 1);
        givesMask(0, "a4 a4 =", 3);
        givesMask(0, "a4 a5 =", 1);
        givesMask(0, "i8 i9 =", 3);
        givesMask(0, "i-8 i-9 =", 3);
        givesMask(0, "i7 i9 =", 1);
        givesMask(1, "v0 a3 =", 3);
        takes("v0 a3 =", 255, -99, 99);
        takes("v0 i3 =", 255, -99, 99);
        givesMask(0, "i1 int?", 2);
        givesMask(0, "a1 int?", 1);
        givesMask(1, "v0 int?", 3);
        givesMask(0, "i1 int? int?", 1);
        takes("v0 int?", 255, -99, 99);
    }

    private static void variablesOfNumericNodes() {
        for (String kind : new String[] {"+", "-", "<"}) {
            SuccessTyping s = Bodies.inferred(CHECK, 2, "v0 v1 " + kind);
            CHECK.ints(s, 0, 0);
            CHECK.ints(s, 0, 1);
            s = Bodies.inferred(CHECK, 2, "v1 i1 " + kind);
            CHECK.any(s, 0, 0);
            CHECK.ints(s, 0, 1);
            s = Bodies.inferred(CHECK, 2, "i1 v0 " + kind);
            CHECK.ints(s, 0, 0);
            CHECK.any(s, 0, 1);
            s = Bodies.inferred(CHECK, 2, "v1 v1 " + kind);
            CHECK.any(s, 0, 0);
            CHECK.ints(s, 0, 1);
        }
    }

    private static void conditions() {
        gives(1, "v0 i1 a2 if", 4, 1, 1);
        takes("v0 i1 a2 if", 3, SuccessTyping.NO_INT, SuccessTyping.NO_INT);
        givesRange(0, "a1 i1 i2 if", 1, 1);
        givesRange(0, "a0 i1 i2 if", 2, 2);
        givesNothing(0, "a2 i1 i2 if");
        givesNothing(0, "i1 i1 i2 if");
        givesNothing(0, "a1 i1 + i1 i2 if");
        givesRange(0, "a1 i1 c5/0 if", 1, 1);
        givesNothing(0, "a0 i1 c5/0 if");
        givesRange(1, "v0 i0 < i1 i2 if", 1, 2);
        takes("v0 i0 < i1 i2 if", 0, -99, 99);
        takes("v0 v0 v0 if", 3, SuccessTyping.NO_INT, SuccessTyping.NO_INT);
        givesMask(1, "v0 v0 v0 if", 3);
        givesMask(2, "v0 i1 < v1 a5 if a6 a7 if", 192);
    }

    private static void branches() {
        gives(1, "v0 int? v0 i5 if", 0, -99, 99);
        takes("v0 int? v0 i5 if", 255, -99, 99);
        givesMask(1, "v0 int? a5 v0 if", 255);
        givesMask(1, "v0 int? a5 v0 int? i1 a6 if if", 96);
        givesMask(1, "v0 int? v0 int? a5 i1 if a6 if", 96);
        takes("v0 int? v0 a0 + v0 if", 255, SuccessTyping.NO_INT, SuccessTyping.NO_INT);
        givesMask(1, "v0 int? v0 a0 + v0 if", 255);
        takes("v0 int? v0 v0 i1 + if", 0, -99, 99);
        givesRange(1, "v0 int? i3 v0 i1 + if", 3, 3);
        givesNothing(1, "v0 int? a1 v0 + v0 i1 + if");
        takes("v0 v0 i1 + a3 if", 3, SuccessTyping.NO_INT, SuccessTyping.NO_INT);
        givesMask(1, "v0 v0 i1 + a3 if", 8);
        SuccessTyping s = Bodies.inferred(CHECK, 2, "v0 int? v1 i1 + v1 a2 a3 if if");
        CHECK.any(s, 0, 0);
        CHECK.type(s, 0, 1, 3, -99, 99);
        CHECK.type(s, 0, 2, 12, -99, 99);
        s = Bodies.inferred(CHECK, 2, "v0 int? v0 a0 + v1 i1 + if");
        CHECK.mask(s, 0, 0, 255);
        CHECK.ints(s, 0, 1);
        s = Bodies.inferred(CHECK, 2, "v1 int? v0 i1 + v1 i1 + if");
        CHECK.ints(s, 0, 0);
        CHECK.ints(s, 0, 1);
        s = Bodies.inferred(CHECK, 2, "v1 int? v1 v0 if");
        CHECK.any(s, 0, 0);
        CHECK.any(s, 0, 1);
        CHECK.any(s, 0, 2);
        gives(1, "v0 i-3 i1 a6 if i4 if", 0, 4, 4);
        gives(1, "v0 a5 = i-3 i4 if", 0, -3, 4);
        gives(1, "v0 a5 = i4 i-3 if", 0, -3, 4);
        gives(1, "v0 a5 = a2 i-3 if", 4, -3, -3);
        gives(1, "v0 a5 = i-3 a2 if", 4, -3, -3);
    }

    private static void environmentsFlowLeftToRight() {
        givesMask(1, "v0 i1 + i0 = v0 int? v0 int? if", 2);
        givesMask(1, "v0 int? v0 i1 + i0 = =", 3);
        givesNothing(1, "v0 a2 a3 if v0 i1 + =");
        takes("v0 a2 a3 if v0 =", 3, SuccessTyping.NO_INT, SuccessTyping.NO_INT);
        givesMask(2, "v0 v1 + int? v1 int? v0 int? if", 2);
        SuccessTyping s = new SuccessTyping(2, 32);
        Bodies.define(CHECK, s, 0, 2, "v1");
        Bodies.define(CHECK, s, 1, 1, "v0 i1 + v0 c0/2");
        s.analyze();
        CHECK.ints(s, 1, 0);
        CHECK.any(s, 1, 2);
    }

    private static void staleTypes() {
        givesNothing(1, "v0 v0 i1 i2 if +");
        givesNothing(2, "v1 v1 i1 i2 if +");
        givesNothing(1, "v0 i1 i2 if v0 +");
        givesMask(1, "v0 v0 i1 + i1 = =", 3);
        givesMask(1, "v0 int? v0 i1 + int? =", 3);
        SuccessTyping s = Bodies.inferred(CHECK, 2, "v0 v1 i1 i2 if <");
        CHECK.ints(s, 0, 0);
        CHECK.mask(s, 0, 1, 3);
    }

    private static void callsThatNeverReturn() {
        givesNothing(1, "c3/0");
        givesNothing(1, "v0 c0/1");
        givesNothing(1, "c0/0");
        givesNothing(1, "v0 v0 c0/2");
        givesNothing(0, "i1 i2 c1/2");
        SuccessTyping s = new SuccessTyping(4, 32);
        Bodies.define(CHECK, s, 0, 1, "v0 i1 +");
        Bodies.define(CHECK, s, 1, 0, "a1 c0/1");
        Bodies.define(CHECK, s, 2, 1, "v0 a2 a3 if c0/1");
        Bodies.define(CHECK, s, 3, 1, "v0 v0 c0/2");
        CHECK.due("analyze()", s.analyze(), 3);
        CHECK.empty(s, 1, 2);
        CHECK.empty(s, 2, 0);
        CHECK.empty(s, 3, 0);
        callsOfWrongArity();
    }

    private static void callsOfWrongArity() {
        for (int arity = 0; arity <= 2; arity++) {
            for (int given = 0; given <= 2; given++) {
                SuccessTyping s = new SuccessTyping(2, 32);
                Bodies.define(CHECK, s, 0, arity, "i3");
                String[] bodies = {"c0/0", "i1 c0/1", "i1 i2 c0/2"};
                Bodies.define(CHECK, s, 1, 0, bodies[given]);
                CHECK.due("analyze()", s.analyze(), arity == given ? 0 : 1);
                CHECK.due("intLo(1, 2)", s.intLo(1, 2), arity == given ? 3 : SuccessTyping.NO_INT);
            }
        }
    }

    private static void callsNarrow() {
        SuccessTyping s = new SuccessTyping(8, 128);
        Bodies.define(CHECK, s, 0, 2, "v0 v1 i1 + v1 i2 + if");
        Bodies.define(CHECK, s, 1, 1, "v0 v0 c0/2");
        Bodies.define(CHECK, s, 2, 2, "v1 v0 c0/2");
        Bodies.define(CHECK, s, 3, 1, "v0 i7 c0/2");
        Bodies.define(CHECK, s, 4, 0, "a1 i7 c0/2");
        Bodies.define(CHECK, s, 5, 0, "a2 i7 c0/2");
        Bodies.define(CHECK, s, 6, 1, "a0 v0 c0/2 v0 int? =");
        Bodies.define(CHECK, s, 7, 2, "c4/0 v1 c2/2");
        CHECK.due("analyze()", s.analyze(), 2);
        CHECK.mask(s, 0, 0, 3);
        CHECK.ints(s, 0, 1);
        CHECK.empty(s, 1, 0);
        CHECK.empty(s, 1, 2);
        CHECK.ints(s, 2, 0);
        CHECK.mask(s, 2, 1, 3);
        CHECK.mask(s, 3, 0, 3);
        CHECK.ints(s, 3, 2);
        CHECK.ints(s, 4, 2);
        CHECK.empty(s, 5, 2);
        CHECK.ints(s, 6, 0);
        CHECK.mask(s, 6, 2, 1);
        CHECK.any(s, 7, 0);
        CHECK.mask(s, 7, 1, 3);
    }

    private static void leastTables() {
        SuccessTyping s = new SuccessTyping(8, 128);
        Bodies.define(CHECK, s, 0, 1, "v0 i1 < i0 v0 i1 - c0/1 if");
        Bodies.define(CHECK, s, 1, 1, "v0 i0 = a1 v0 i1 - c2/1 if");
        Bodies.define(CHECK, s, 2, 1, "v0 i0 = a0 v0 i1 - c1/1 if");
        Bodies.define(CHECK, s, 3, 1, "v0 c4/1");
        Bodies.define(CHECK, s, 4, 1, "v0 c3/1");
        Bodies.define(CHECK, s, 5, 1, "v0 i1 < i0 v0 i1 - c5/1 i1 + if");
        Bodies.define(CHECK, s, 6, 1, "v0 i1 < i0 v0 i1 - c6/1 i1 - if");
        Bodies.define(CHECK, s, 7, 1, "v0 int? v0 v0 c7/1 if");
        CHECK.due("analyze()", s.analyze(), 2);
        CHECK.ints(s, 0, 0);
        CHECK.range(s, 0, 2, 0, 0);
        CHECK.any(s, 1, 0);
        CHECK.mask(s, 1, 2, 3);
        CHECK.any(s, 2, 0);
        CHECK.mask(s, 2, 2, 3);
        CHECK.empty(s, 3, 2);
        CHECK.empty(s, 4, 0);
        CHECK.range(s, 5, 2, 0, 99);
        CHECK.range(s, 6, 2, -99, 0);
        CHECK.ints(s, 7, 0);
        CHECK.ints(s, 7, 2);
    }

    private static void longChains() {
        SuccessTyping s = new SuccessTyping(8, 128);
        Bodies.define(CHECK, s, 0, 0, "a1 a1 = i0 c1/0 i1 - if");
        for (int f = 1; f < 8; f++) {
            int next = (f + 1) % 8;
            Bodies.define(CHECK, s, f, 0, "a1 a1 = a" + f + " c" + next + "/0 if");
        }
        CHECK.due("analyze() with atoms in sums", s.analyze(), 0);
        CHECK.type(s, 0, 2, 0, -99, 0);
        CHECK.type(s, 1, 2, 254, -99, 0);
        CHECK.type(s, 7, 2, 128, -99, 0);
    }
}
