/** Promise 5, with "Abstract evaluation": its rules for all kinds but CALL. */
public final class InferenceTest {
    private static final Check CHECK = new Check();
    private static final Infer INFER = new Infer(CHECK);
    private static final String[] NUMERIC = {"+", "-", "<"};
    private static final String BOT = "a0 i1 +";

    public static void main(String[] args) {
        CHECK.sentence("Any pair whose r is EMPTY counts as BOT.", InferenceTest::emptyResult);
        CHECK.sentence("Any pair whose some env2 entry is EMPTY counts as BOT.",
            InferenceTest::emptyEntry);
        CHECK.sentence("'x is VAR j' means x is a KIND_VAR node with operand j.",
            InferenceTest::onlyVariablesNarrow);
        CHECK.sentence("BOT there makes the whole rule BOT.", InferenceTest::bottomSpreads);
        CHECK.sentence("INT c: ((0, RANGE(c, c)), env).", InferenceTest::integers);
        CHECK.sentence("ATOM a: ((1 << a, NONE), env).", InferenceTest::atoms);
        CHECK.sentence("VAR j: (env[j], env).", InferenceTest::variables);
        CHECK.sentence("(rx, e1) = A(x, env); (ry, e2) = A(y, e1).", InferenceTest::leftToRight);
        CHECK.sentence("ADD, SUB, LESS: BOT if rx.ints or ry.ints is NONE",
            InferenceTest::numericWithoutInts);
        CHECK.sentence("If x is VAR j: e2[j] := meet(e2[j], INTS).", InferenceTest::firstNarrows);
        CHECK.sentence("Then, if y is VAR j: e2[j] := meet(e2[j], INTS).",
            InferenceTest::secondNarrows);
        CHECK.sentence("ADD gives (0, RANGE(lx+ly, hx+hy)).", InferenceTest::sums);
        CHECK.sentence("SUB gives (0, RANGE(lx-hy, hx-ly)).", InferenceTest::differences);
        CHECK.sentence("LESS: m has bit 1 if lx < hy", InferenceTest::lessMayBeTrue);
        CHECK.sentence("LESS: and bit 0 if hx >= ly.", InferenceTest::lessMayBeFalse);
        CHECK.sentence("EQ: m = 1, plus 2 if meet(rx, ry) is not EMPTY.", InferenceTest::equals);
        CHECK.sentence("EQ: the result comes with e2", InferenceTest::equalsDoesNotNarrow);
        CHECK.sentence("ISINT: m has bit 0 if rx.mask != 0", InferenceTest::queryMayBeFalse);
        CHECK.sentence("ISINT: and bit 1 if rx.ints is not NONE.", InferenceTest::queryMayBeTrue);
        CHECK.sentence("IF: If x is VAR j: e1[j] := meet(e1[j], BOOL).",
            InferenceTest::conditionNarrows);
        CHECK.sentence("IF: If x is ISINT whose child is VAR j: et[j] := meet(et[j], INTS)",
            InferenceTest::thenSeesInts);
        CHECK.sentence("IF: and ee[j] := meet(ee[j], ATOMS).", InferenceTest::elseSeesAtoms);
        CHECK.sentence("OT = A(y, et) if bit 1 of rx.mask is 1; else OT = BOT.",
            InferenceTest::thenBranch);
        CHECK.sentence("OE = A(z, ee) if bit 0 of rx.mask is 1; else OE = BOT.",
            InferenceTest::elseBranch);
        CHECK.sentence("OT = BOT / OE = BOT where some entry of et or ee is EMPTY",
            InferenceTest::emptyBranches);
        CHECK.sentence("The result is OT if OE is BOT", InferenceTest::onlyThen);
        CHECK.sentence("OE if OT is BOT", InferenceTest::onlyElse);
        CHECK.sentence("and otherwise the join of the result types and of each env entry.",
            InferenceTest::bothBranches);
        CHECK.finish();
    }

    private static void emptyResult() {
        INFER.givesNothing(0, "c7/0");
        INFER.givesNothing(2, "c7/0");
        INFER.givesNothing(0, "a2 i1 i2 if");
        INFER.givesNothing(0, "i1 i1 i2 if");
        INFER.givesNothing(0, "a1 c7/0 i2 if");
    }

    /** The type of x is taken before y narrows the parameter, so only the entry shows the clash. */
    private static void emptyEntry() {
        for (String kind : NUMERIC) {
            INFER.givesNothing(1, "v0 v0 i1 i2 if " + kind);
            INFER.givesNothing(2, "v1 v1 i1 i2 if " + kind);
            INFER.givesNothing(2, "v0 v0 i1 i2 if " + kind);
        }
        INFER.givesNothing(2, "v0 i1 + i1 = v0 i1 i2 if v0 a1 a2 if if");
        SuccessTyping s = Bodies.inferred(CHECK, 2, "v0 v1 i1 i2 if <");
        CHECK.ints(s, 0, 0);
        CHECK.mask(s, 0, 1, 3);
    }

    /** Here the parameter stands one node lower, so the rule that names VAR j must not see it. */
    private static void onlyVariablesNarrow() {
        String wrapped = "a1 v0 i0 if";
        for (String kind : NUMERIC) {
            INFER.takesAny(wrapped + " i1 " + kind);
            INFER.takesAny("i1 " + wrapped + " " + kind);
        }
        INFER.takesAny(wrapped + " i1 i2 if");
        INFER.takesAny(wrapped + " int? a2 i1 if");
        INFER.gives(1, wrapped + " int? v0 a2 if", 255, -99, 99);
        INFER.gives(1, "v0 int? int? v0 v0 if", 255, -99, 99);
        INFER.gives(1, "v0 a1 = v0 v0 if", 255, -99, 99);
        SuccessTyping s = Bodies.inferred(CHECK, 2, "v1 i1 +");
        CHECK.any(s, 0, 0);
        CHECK.ints(s, 0, 1);
        s = Bodies.inferred(CHECK, 2, "v0 i1 +");
        CHECK.ints(s, 0, 0);
        CHECK.any(s, 0, 1);
    }

    private static void bottomSpreads() {
        for (String kind : new String[] {"+", "-", "<", "="}) {
            INFER.givesNothing(0, BOT + " i1 " + kind);
            INFER.givesNothing(0, "i1 " + BOT + " " + kind);
            INFER.givesNothing(2, BOT + " v0 " + kind);
            INFER.givesNothing(2, "v1 " + BOT + " " + kind);
        }
        INFER.givesNothing(0, BOT + " int?");
        INFER.givesNothing(0, BOT + " i1 i2 if");
        INFER.givesNothing(1, BOT + " v0 i1 i2 if +");
        INFER.givesNothing(1, BOT + " v0 int? i1 i2 if =");
        INFER.givesNothing(0, "a1 a1 = " + BOT + " " + BOT + " if");
    }

    private static void integers() {
        for (int c = -99; c <= 99; c++) {
            int lo = c < -8 ? -99 : c > 8 ? 8 : c;
            int hi = c > 8 ? 99 : c < -8 ? -8 : c;
            INFER.givesRange(0, "i" + c, lo, hi);
        }
        INFER.takesAny("i5");
    }

    private static void atoms() {
        for (int a = 0; a < 8; a++) {
            INFER.givesMask(0, "a" + a, 1 << a);
        }
        INFER.takesAny("a5");
    }

    private static void variables() {
        for (int j = 0; j < 2; j++) {
            SuccessTyping s = Bodies.inferred(CHECK, 2, "v" + j);
            CHECK.any(s, 0, 0);
            CHECK.any(s, 0, 1);
            CHECK.any(s, 0, 2);
            // The parameter is asked for after the other one has been narrowed, and after itself.
            INFER.gives(2, "v" + (1 - j) + " i1 < v" + j + " v" + j + " if", 255, -99, 99);
            INFER.gives(2, "v" + j + " i1 < v" + j + " v" + j + " if", 0, -99, 99);
        }
    }

    private static void leftToRight() {
        for (String kind : NUMERIC) {
            INFER.givesMask(1, "v0 i1 " + kind + " int? v0 int? v0 int? if", 2);
            INFER.givesNothing(1, "v0 i1 i2 if v0 " + kind);
            INFER.givesNothing(1, "v0 a2 a3 if v0 i1 " + kind + " =");
        }
        INFER.givesMask(1, "v0 i1 + i0 = v0 int? v0 int? if", 2);
        // x sees the parameter before y narrows it, y after x has.
        INFER.givesMask(1, "v0 int? v0 i1 + int? =", 3);
        INFER.givesMask(1, "v0 i1 + int? v0 int? =", 3);
        INFER.givesMask(1, "v0 i1 + int? v0 a5 = =", 1);
        INFER.givesMask(1, "v0 a5 = v0 i1 + int? =", 3);
        INFER.takesMask("v0 a2 a3 if v0 =", 3);
    }

    private static void numericWithoutInts() {
        for (String kind : NUMERIC) {
            INFER.givesNothing(0, "i1 a1 " + kind);
            INFER.givesNothing(0, "a1 i1 " + kind);
            INFER.givesNothing(0, "a0 a0 " + kind);
            INFER.givesNothing(1, "v0 a1 " + kind);
            INFER.givesNothing(1, "a1 v0 " + kind);
            INFER.givesNothing(1, "v0 a2 a3 if i1 " + kind);
        }
        // One integer on each side is enough, whatever atoms there are.
        INFER.givesRange(1, "v0 a2 i3 if v0 i4 a5 if +", 7, 7);
        INFER.givesRange(1, "v0 a2 i3 if v0 i4 a5 if -", -1, -1);
        INFER.givesMask(1, "v0 a2 i3 if v0 i4 a5 if <", 2);
    }

    private static void firstNarrows() {
        for (String kind : NUMERIC) {
            for (int j = 0; j < 2; j++) {
                SuccessTyping s = Bodies.inferred(CHECK, 2, "v" + j + " i1 " + kind);
                CHECK.ints(s, 0, j);
                CHECK.any(s, 0, 1 - j);
            }
        }
    }

    private static void secondNarrows() {
        for (String kind : NUMERIC) {
            for (int j = 0; j < 2; j++) {
                SuccessTyping s = Bodies.inferred(CHECK, 2, "i1 v" + j + " " + kind);
                CHECK.ints(s, 0, j);
                CHECK.any(s, 0, 1 - j);
                s = Bodies.inferred(CHECK, 2, "v" + j + " v" + (1 - j) + " " + kind);
                CHECK.ints(s, 0, 0);
                CHECK.ints(s, 0, 1);
                s = Bodies.inferred(CHECK, 2, "v" + j + " v" + j + " " + kind);
                CHECK.ints(s, 0, j);
                CHECK.any(s, 0, 1 - j);
            }
        }
    }

    private static final String ONE_TO_THREE = "v0 i1 i3 if ";
    private static final String MINUS_TWO_TO_FIVE = "v0 i-2 i5 if ";

    private static void sums() {
        INFER.givesRange(1, ONE_TO_THREE + MINUS_TWO_TO_FIVE + "+", -1, 8);
        INFER.givesRange(1, MINUS_TWO_TO_FIVE + ONE_TO_THREE + "+", -1, 8);
        INFER.givesRange(0, "i50 i-50 +", -99, 99);
        INFER.givesRange(0, "i9 i-8 +", 0, 99);
        INFER.givesRange(0, "i-9 i8 +", -99, 0);
        INFER.givesRange(2, "v0 v1 +", -99, 99);
        INFER.givesRange(1, "v0 i0 +", -99, 99);
    }

    private static void differences() {
        INFER.givesRange(1, ONE_TO_THREE + MINUS_TWO_TO_FIVE + "-", -4, 5);
        INFER.givesRange(1, MINUS_TWO_TO_FIVE + ONE_TO_THREE + "-", -5, 4);
        INFER.givesRange(0, "i3 i5 -", -2, -2);
        INFER.givesRange(0, "i8 i9 -", -99, 0);
        INFER.givesRange(0, "i-8 i-9 -", 0, 99);
        INFER.givesRange(0, "i50 i50 -", -99, 99);
        // Even of one parameter the difference is that of two ranges.
        INFER.givesRange(1, "v0 v0 -", -99, 99);
    }

    private static void lessMayBeTrue() {
        INFER.givesMask(1, ONE_TO_THREE + "i1 <", 1);
        INFER.givesMask(1, ONE_TO_THREE + "i2 <", 3);
        INFER.givesMask(1, "i3 " + ONE_TO_THREE + "<", 1);
        INFER.givesMask(1, "i2 " + ONE_TO_THREE + "<", 3);
        INFER.givesMask(0, "i2 i1 <", 1);
        INFER.givesMask(0, "i2 i2 <", 1);
        INFER.givesMask(0, "i-8 i-9 <", 1);
        INFER.givesMask(0, "i9 i8 <", 1);
        INFER.givesMask(0, "i-9 i-8 <", 3);
        INFER.givesMask(0, "i50 i60 <", 3);
        INFER.givesMask(1, "v0 i-99 <", 3);
        INFER.givesMask(1, "v0 v0 <", 3);
    }

    private static void lessMayBeFalse() {
        INFER.givesMask(1, ONE_TO_THREE + "i3 <", 3);
        INFER.givesMask(1, ONE_TO_THREE + "i4 <", 2);
        INFER.givesMask(1, "i1 " + ONE_TO_THREE + "<", 3);
        INFER.givesMask(1, "i0 " + ONE_TO_THREE + "<", 2);
        INFER.givesMask(0, "i1 i2 <", 2);
        INFER.givesMask(0, "i7 i9 <", 2);
        INFER.givesMask(0, "i8 i9 <", 3);
        INFER.givesMask(0, "i-9 i-7 <", 2);
        INFER.givesMask(1, "i-99 v0 <", 3);
    }

    private static void equals() {
        INFER.givesMask(0, "i1 i1 =", 3);
        INFER.givesMask(0, "i1 i2 =", 1);
        INFER.givesMask(0, "a4 a4 =", 3);
        INFER.givesMask(0, "a4 a5 =", 1);
        INFER.givesMask(0, "a0 i0 =", 1);
        INFER.givesMask(1, "v0 a3 =", 3);
        INFER.givesMask(1, "v0 i3 =", 3);
        INFER.givesMask(1, "v0 v0 =", 3);
        INFER.givesMask(2, "v0 v1 =", 3);
    }

    private static void equalsDoesNotNarrow() {
        INFER.takesAny("v0 a3 =");
        INFER.takesAny("v0 i3 =");
        INFER.takesAny("i3 v0 =");
        INFER.takesAny("v0 v0 =");
        INFER.takesInts("v0 i1 + i3 =");
        INFER.takesInts("i3 v0 i1 + =");
    }

    private static void queryMayBeFalse() {
        INFER.givesMask(0, "a0 int?", 1);
        INFER.givesMask(0, "a7 int?", 1);
        INFER.givesMask(1, "v0 i1 a7 if int?", 3);
        INFER.givesMask(0, "i1 int?", 2);
        INFER.givesMask(0, "i1 int? int?", 1);
    }

    private static void queryMayBeTrue() {
        for (int c : new int[] {-99, -8, 0, 8, 99}) {
            INFER.givesMask(0, "i" + c + " int?", 2);
        }
        INFER.givesMask(1, "v0 int?", 3);
        INFER.takesAny("v0 int?");
        INFER.givesMask(1, "v0 i1 + int?", 2);
        INFER.takesInts("v0 i1 + int?");
    }

    private static void conditionNarrows() {
        INFER.takesMask("v0 i1 a2 if", 3);
        INFER.gives(1, "v0 i1 a2 if", 4, 1, 1);
        // Each branch sees both truth values.
        INFER.takesMask("v0 v0 v0 if", 3);
        INFER.givesMask(1, "v0 v0 a5 if", 35);
        INFER.givesMask(1, "v0 a5 v0 if", 35);
        INFER.takesMask("v0 v0 i1 + a3 if", 3);
        INFER.givesMask(1, "v0 v0 i1 + a3 if", 8);
        SuccessTyping s = Bodies.inferred(CHECK, 2, "v1 i1 i2 if");
        CHECK.any(s, 0, 0);
        CHECK.mask(s, 0, 1, 3);
    }

    private static void thenSeesInts() {
        INFER.gives(1, "v0 int? v0 i5 if", 0, -99, 99);
        INFER.takesAny("v0 int? v0 i5 if");
        INFER.takesMask("v0 int? v0 a0 + v0 if", 255);
        INFER.givesMask(1, "v0 int? v0 int? a5 i1 if a6 if", 96);
        INFER.givesMask(1, "v0 int? v0 a2 a3 if a6 if", 64);
        SuccessTyping s = Bodies.inferred(CHECK, 2, "v1 int? v1 v0 if");
        CHECK.any(s, 0, 0);
        CHECK.any(s, 0, 1);
        CHECK.any(s, 0, 2);
        INFER.givesRange(2, "v1 int? v1 i5 if", -99, 99);
    }

    private static void elseSeesAtoms() {
        INFER.givesMask(1, "v0 int? a5 v0 if", 255);
        INFER.takesAny("v0 int? a5 v0 if");
        INFER.takesInts("v0 int? v0 v0 i1 + if");
        INFER.givesMask(1, "v0 int? a5 v0 int? i1 a6 if if", 96);
        INFER.givesRange(1, "v0 int? i3 v0 i1 + if", 3, 3);
        INFER.givesMask(2, "v1 int? a5 v1 if", 255);
        INFER.gives(2, "v1 int? a5 v0 if", 255, -99, 99);
    }

    private static void thenBranch() {
        INFER.givesRange(0, "a1 i1 i2 if", 1, 1);
        INFER.givesRange(0, "i1 i2 < i1 i2 if", 1, 1);
        INFER.givesNothing(0, "a1 c7/0 i2 if");
        INFER.givesRange(1, "v0 a1 i7 if i1 i2 if", 1, 1);
        for (String other : new String[] {"a2", "a7", "i0", "i1"}) {
            INFER.givesNothing(0, other + " i1 i2 if");
        }
    }

    private static void elseBranch() {
        INFER.givesRange(0, "a0 i1 i2 if", 2, 2);
        INFER.givesRange(0, "i2 i1 < i1 i2 if", 2, 2);
        INFER.givesNothing(0, "a0 i1 c7/0 if");
        INFER.givesRange(1, "v0 i7 a0 if i1 i2 if", 2, 2);
        INFER.givesRange(1, "v0 i0 < i1 i2 if", 1, 2);
        INFER.takesInts("v0 i0 < i1 i2 if");
    }

    /** The parameter is known to be of one kind, so one branch of the query is left out. */
    private static void emptyBranches() {
        INFER.givesMask(1, "v0 i1 + i0 = v0 int? a5 a6 if a7 if", 160);
        INFER.givesMask(1, "v0 v0 int? a5 a6 if a7 if", 192);
        INFER.givesNothing(1, "v0 i1 + i0 = v0 a5 a6 if v0 a5 a6 if if");
        INFER.givesMask(2, "v1 v1 int? a5 a6 if v1 int? a2 a3 if if", 72);
    }

    private static void onlyThen() {
        INFER.givesRange(1, "v0 i3 " + BOT + " if", 3, 3);
        INFER.takesMask("v0 i3 " + BOT + " if", 3);
        INFER.takesInts("v0 int? i3 " + BOT + " if");
        SuccessTyping s = Bodies.inferred(CHECK, 2, "v0 int? v1 i1 + v0 i1 + if");
        CHECK.ints(s, 0, 0);
        CHECK.ints(s, 0, 1);
        CHECK.ints(s, 0, 2);
    }

    private static void onlyElse() {
        INFER.givesRange(1, "v0 " + BOT + " i3 if", 3, 3);
        INFER.takesMask("v0 " + BOT + " i3 if", 3);
        INFER.takesMask("v0 int? " + BOT + " i3 if", 255);
        SuccessTyping s = Bodies.inferred(CHECK, 2, "v0 int? v0 a0 + v1 i1 + if");
        CHECK.mask(s, 0, 0, 255);
        CHECK.ints(s, 0, 1);
        CHECK.ints(s, 0, 2);
    }

    private static void bothBranches() {
        SuccessTyping s = Bodies.inferred(CHECK, 2, "v0 int? v1 i1 + v1 a2 a3 if if");
        CHECK.any(s, 0, 0);
        CHECK.type(s, 0, 1, 3, -99, 99);
        CHECK.type(s, 0, 2, 12, -99, 99);
        s = Bodies.inferred(CHECK, 2, "v1 int? v0 i1 + v0 a2 a3 if if");
        CHECK.type(s, 0, 0, 3, -99, 99);
        CHECK.any(s, 0, 1);
        // What one branch narrows, the other one widens again.
        INFER.takesAny("v0 a5 = v0 i1 + i3 if");
        INFER.takesAny("v0 a5 = i3 v0 i1 + if");
        INFER.takesInts("v0 a5 = v0 i1 + v0 i2 + if");
        INFER.takes("v0 a5 = v0 i1 + v0 a2 a3 if if", 3, -99, 99);
        // After the IF, the joined types are what the next node sees.
        INFER.givesMask(1, "v0 a5 = v0 i1 + v0 i2 + if int? v0 int? =", 3);
        INFER.givesMask(1, "v0 a5 = v0 i1 + v0 i2 + if int? v0 a5 = =", 1);
    }
}
