/** Promise 5, with "Types": RANGE, the bound set, join and meet, as far as inference shows them. */
public final class TypesTest {
    private static final Check CHECK = new Check();
    private static final Infer INFER = new Infer(CHECK);
    private static final int[] EDGES = {-99, -98, -50, -10, -9, -8, -7, -1, 0, 1, 7, 8, 9, 10, 50,
        98, 99};

    public static void main(String[] args) {
        CHECK.sentence("Both lo and hi come from the bound set {-99, -8, -7, ..., 7, 8, 99}.",
            TypesTest::boundSet);
        CHECK.sentence("low(v) = -99 if v < -8", TypesTest::lowBelow);
        CHECK.sentence("low(v) = 8 if v > 8", TypesTest::lowAbove);
        CHECK.sentence("high(v) = 99 if v > 8", TypesTest::highAbove);
        CHECK.sentence("high(v) = -8 if v < -8", TypesTest::highBelow);
        CHECK.sentence("else v", TypesTest::exact);
        CHECK.sentence("l2 = max(l, -99)", TypesTest::belowLeast);
        CHECK.sentence("h2 = min(h, 99)", TypesTest::aboveGreatest);
        CHECK.sentence("If l2 > h2 there is no range.", TypesTest::noRangeIsNeverMet);
        CHECK.sentence("join: mask s.mask | t.mask", TypesTest::joinsMasks);
        CHECK.sentence("join: If one ints is NONE, the ints is the other one",
            TypesTest::joinsWithNone);
        CHECK.sentence("join: otherwise it is [min lo, max hi].", TypesTest::joinsRanges);
        CHECK.sentence("meet: mask s.mask & t.mask", TypesTest::meetsMasks);
        CHECK.sentence("meet: The ints is NONE if either is NONE", TypesTest::meetsNone);
        CHECK.sentence("meet: or if max lo > min hi", TypesTest::meetsApart);
        CHECK.sentence("meet: otherwise it is [max lo, min hi].", TypesTest::meetsTouching);
        CHECK.finish();
    }

    private static boolean isBound(int v) {
        return v == -99 || v == 99 || v >= -8 && v <= 8;
    }

    private static void boundSet() {
        for (int c : EDGES) {
            for (int d : EDGES) {
                inBoundSet("i" + c + " i" + d + " +");
                inBoundSet("i" + c + " i" + d + " -");
                inBoundSet("a1 a1 = i" + c + " i" + d + " if");
            }
        }
    }

    private static void inBoundSet(String body) {
        SuccessTyping s = Bodies.inferred(CHECK, 0, body);
        int lo = s.intLo(0, 2);
        int hi = s.intHi(0, 2);
        CHECK.due("bounds of '" + body + "'", isBound(lo) && isBound(hi) && lo <= hi, true);
    }

    private static int due(int v, int below, int above) {
        return v < -8 ? below : v > 8 ? above : v;
    }

    private static void lowBelow() {
        for (int c = -99; c <= -9; c++) {
            CHECK.due("intLo of " + c, Bodies.inferred(CHECK, 0, "i" + c).intLo(0, 2), -99);
        }
        INFER.givesRange(0, "i-8 i-1 +", -99, -8);
        INFER.givesRange(0, "i-8 i1 -", -99, -8);
        INFER.givesRange(1, "v0 i-9 i3 if", -99, 3);
    }

    private static void lowAbove() {
        for (int c = 9; c <= 99; c++) {
            CHECK.due("intLo of " + c, Bodies.inferred(CHECK, 0, "i" + c).intLo(0, 2), 8);
        }
        INFER.givesRange(0, "i8 i1 +", 8, 99);
        INFER.givesRange(0, "i8 i-1 -", 8, 99);
    }

    private static void highAbove() {
        for (int c = 9; c <= 99; c++) {
            CHECK.due("intHi of " + c, Bodies.inferred(CHECK, 0, "i" + c).intHi(0, 2), 99);
        }
        INFER.givesRange(0, "i5 i4 +", 8, 99);
        INFER.givesRange(0, "i5 i-4 -", 8, 99);
        INFER.givesRange(1, "v0 i9 i3 if", 3, 99);
    }

    private static void highBelow() {
        for (int c = -99; c <= -9; c++) {
            CHECK.due("intHi of " + c, Bodies.inferred(CHECK, 0, "i" + c).intHi(0, 2), -8);
        }
        INFER.givesRange(0, "i-5 i-4 +", -99, -8);
        INFER.givesRange(0, "i-5 i4 -", -99, -8);
    }

    private static void exact() {
        for (int c = -8; c <= 8; c++) {
            INFER.givesRange(0, "i" + c, c, c);
            INFER.givesRange(0, "i" + c + " i0 +", c, c);
            INFER.givesRange(0, "i0 i" + -c + " -", c, c);
        }
        INFER.givesRange(0, "i5 i3 +", 8, 8);
        INFER.givesRange(0, "i-5 i-3 +", -8, -8);
    }

    /** The sum of the low bounds is -198 or -107, the difference -198, far below -99. */
    private static void belowLeast() {
        INFER.givesRange(0, "i-99 i-99 +", -99, -8);
        INFER.givesRange(0, "i-99 i-8 +", -99, -8);
        INFER.givesRange(0, "i-99 i99 -", -99, -8);
        INFER.givesRange(2, "v0 v1 +", -99, 99);
        INFER.givesRange(1, "v0 i8 -", -99, 99);
    }

    private static void aboveGreatest() {
        INFER.givesRange(0, "i99 i99 +", 8, 99);
        INFER.givesRange(0, "i99 i8 +", 8, 99);
        INFER.givesRange(0, "i99 i-99 -", 8, 99);
        INFER.givesRange(2, "v0 v1 -", -99, 99);
        INFER.givesRange(1, "v0 i-8 -", -99, 99);
    }

    /**
     * Every low bound is 8 at most and every high bound -8 at least, so a sum or a difference spans
     * -16..16 at the farthest and always has a range; what fails in a run is not BOT here.
     */
    private static void noRangeIsNeverMet() {
        for (int c : EDGES) {
            for (int d : EDGES) {
                int lowC = due(c, -99, 8);
                int highC = due(c, -8, 99);
                int lowD = due(d, -99, 8);
                int highD = due(d, -8, 99);
                String pair = "i" + c + " i" + d;
                INFER.givesRange(0, pair + " +", due(lowC + lowD, -99, 8),
                    due(highC + highD, -8, 99));
                INFER.givesRange(0, pair + " -", due(lowC - highD, -99, 8),
                    due(highC - lowD, -8, 99));
            }
        }
        SuccessTyping s = Bodies.inferred(CHECK, 0, "i99 i1 +");
        CHECK.due("analyze() of 'i99 i1 +'", s.analyze(), 0);
        CHECK.run(s, 0, 0, 0, SuccessTyping.RUN_FAIL, 0);
    }

    private static void joinsMasks() {
        for (int a = 0; a < 8; a++) {
            for (int b = 0; b < 8; b++) {
                INFER.givesMask(1, "v0 a" + a + " a" + b + " if", 1 << a | 1 << b);
            }
        }
        INFER.givesMask(1, "v0 a7 v0 a0 a3 if if", 137);
    }

    private static void joinsWithNone() {
        INFER.gives(1, "v0 i-3 a2 if", 4, -3, -3);
        INFER.gives(1, "v0 a2 i-3 if", 4, -3, -3);
        INFER.gives(1, "v0 a2 i50 if", 4, 8, 99);
        INFER.gives(1, "v0 i-50 a2 if", 4, -99, -8);
        INFER.givesMask(1, "v0 a2 a3 if", 12);
    }

    private static void joinsRanges() {
        INFER.givesRange(1, "v0 i-3 i4 if", -3, 4);
        INFER.givesRange(1, "v0 i4 i-3 if", -3, 4);
        INFER.givesRange(1, "v0 i4 i4 if", 4, 4);
        INFER.givesRange(1, "v0 i-9 i9 if", -99, 99);
        INFER.givesRange(1, "v0 v0 i-1 i5 if v0 i0 i2 if if", -1, 5);
        INFER.givesRange(1, "v0 v0 i0 i2 if v0 i-1 i5 if if", -1, 5);
        INFER.gives(1, "v0 v0 i0 a2 if v0 a3 i5 if if", 12, 0, 5);
    }

    private static final String THREE_OR_FIVE = "v0 a3 i5 if ";

    /** EQ can be true just where the two types meet; all sides here hold atoms and integers. */
    private static void meetsMasks() {
        INFER.givesMask(1, THREE_OR_FIVE + "v0 a3 i6 if =", 3);
        INFER.givesMask(1, THREE_OR_FIVE + "v0 a4 i6 if =", 1);
        for (int a = 0; a < 8; a++) {
            for (int b = 0; b < 8; b++) {
                INFER.givesMask(0, "a" + a + " a" + b + " =", a == b ? 3 : 1);
            }
        }
    }

    private static void meetsNone() {
        INFER.givesMask(1, THREE_OR_FIVE + "a4 =", 1);
        INFER.givesMask(1, "a4 " + THREE_OR_FIVE + "=", 1);
        INFER.givesMask(0, "a0 i0 =", 1);
        INFER.givesMask(0, "i0 a0 =", 1);
        INFER.givesMask(0, "a7 i-99 =", 1);
        INFER.givesMask(0, "i99 a7 =", 1);
    }

    private static void meetsApart() {
        INFER.givesMask(1, THREE_OR_FIVE + "v0 a4 i6 if =", 1);
        INFER.givesMask(1, THREE_OR_FIVE + "v0 a4 i4 if =", 1);
        INFER.givesMask(0, "i1 i2 =", 1);
        INFER.givesMask(0, "i2 i1 =", 1);
        INFER.givesMask(0, "i7 i9 =", 1);
        INFER.givesMask(0, "i9 i7 =", 1);
        INFER.givesMask(0, "i-7 i-9 =", 1);
        INFER.givesMask(0, "i-9 i-7 =", 1);
        INFER.givesMask(1, "v0 i1 i3 if i4 =", 1);
        INFER.givesMask(1, "v0 i1 i3 if i0 =", 1);
    }

    private static void meetsTouching() {
        INFER.givesMask(1, THREE_OR_FIVE + "v0 a4 i5 if =", 3);
        INFER.givesMask(0, "i8 i9 =", 3);
        INFER.givesMask(0, "i9 i8 =", 3);
        INFER.givesMask(0, "i-8 i-9 =", 3);
        INFER.givesMask(0, "i-9 i-8 =", 3);
        INFER.givesMask(0, "i-99 i-9 =", 3);
        INFER.givesMask(1, "v0 i1 i3 if i3 =", 3);
        INFER.givesMask(1, "v0 i1 i3 if i1 =", 3);
        INFER.givesMask(1, "v0 i1 i3 if i2 =", 3);
        INFER.givesMask(1, "i2 v0 i1 i3 if =", 3);
    }
}
