/** Promise 7: intLo and intHi. */
public final class IntBoundsTest {
    private static final Check CHECK = new Check();
    private static final int LEAST = Integer.MIN_VALUE;
    private static final int MOST = Integer.MAX_VALUE;

    public static void main(String[] args) {
        CHECK.sentence("`intLo(f, which)` answers lo of the ints of that type", IntBoundsTest::lows);
        CHECK.sentence("and `intHi(f, which)` answers hi.", IntBoundsTest::highs);
        CHECK.sentence("Both answer NO_INT if the ints is NONE", IntBoundsTest::none);
        CHECK.sentence("and BAD if refused: f outside 0..n-1", IntBoundsTest::slotOutside);
        CHECK.sentence("or which outside 0..2", IntBoundsTest::whichOutside);
        CHECK.sentence("Answers that are not special lie in the bound set, with intLo <= intHi.",
            IntBoundsTest::boundSet);
        CHECK.sentence("(they answer for any slot state)", IntBoundsTest::anyState);
        CHECK.sentence("Nothing changes.", IntBoundsTest::leavesNoTrace);
        CHECK.finish();
    }

    private static void both(SuccessTyping s, int f, int which, int lo, int hi) {
        CHECK.due("intLo(" + f + ", " + which + ")", s.intLo(f, which), lo);
        CHECK.due("intHi(" + f + ", " + which + ")", s.intHi(f, which), hi);
    }

    private static void lows() {
        SuccessTyping s = Inferred.made(CHECK);
        for (int f = 0; f < Inferred.SLOTS; f++) {
            for (int which = 0; which <= 2; which++) {
                int due = Inferred.DUE[f * 3 + which][1];
                CHECK.due("intLo(" + f + ", " + which + ")", s.intLo(f, which), due);
            }
        }
    }

    private static void highs() {
        SuccessTyping s = Inferred.made(CHECK);
        for (int f = 0; f < Inferred.SLOTS; f++) {
            for (int which = 0; which <= 2; which++) {
                int due = Inferred.DUE[f * 3 + which][2];
                CHECK.due("intHi(" + f + ", " + which + ")", s.intHi(f, which), due);
            }
        }
    }

    /** NONE beside atoms, in an EMPTY type, past the arity, and in a slot without a body. */
    private static void none() {
        SuccessTyping s = new SuccessTyping(3, 32);
        Bodies.define(CHECK, s, 0, 1, "v0 a2 a3 if");
        Bodies.define(CHECK, s, 1, 0, "i1 a1 +");
        s.analyze();
        both(s, 0, SuccessTyping.WHICH_P0, 1000, 1000);
        both(s, 0, SuccessTyping.WHICH_RESULT, 1000, 1000);
        both(s, 0, SuccessTyping.WHICH_P1, 1000, 1000);
        both(s, 1, SuccessTyping.WHICH_RESULT, 1000, 1000);
        both(s, 2, SuccessTyping.WHICH_RESULT, 1000, 1000);
        // The integer 0 alone is not NONE.
        both(Bodies.inferred(CHECK, 0, "i0"), 0, SuccessTyping.WHICH_RESULT, 0, 0);
    }

    private static void slotOutside() {
        SuccessTyping s = Inferred.made(CHECK);
        for (int f : new int[] {LEAST, -2, -1, Inferred.SLOTS, 7, 8, 9, MOST}) {
            for (int which = -1; which <= 3; which++) {
                both(s, f, which, -1000, -1000);
            }
        }
        for (int n = 1; n <= 8; n++) {
            SuccessTyping t = new SuccessTyping(n, 16);
            both(t, 0, 0, 1000, 1000);
            both(t, n - 1, 2, 1000, 1000);
            both(t, -1, 2, -1000, -1000);
            both(t, n, 0, -1000, -1000);
        }
    }

    private static void whichOutside() {
        SuccessTyping s = Inferred.made(CHECK);
        for (int f = 0; f < Inferred.SLOTS; f++) {
            for (int which : new int[] {LEAST, -3, -2, -1, 3, 4, 5, MOST}) {
                both(s, f, which, -1000, -1000);
            }
        }
    }

    private static void boundSet() {
        for (int c = -99; c <= 99; c++) {
            for (int d : new int[] {-99, -9, -8, 0, 8, 9, 99}) {
                SuccessTyping s = Bodies.inferred(CHECK, 1, "v0 i" + c + " i" + d + " if");
                int lo = s.intLo(0, 2);
                int hi = s.intHi(0, 2);
                boolean bounds = (lo == -99 || lo >= -8 && lo <= 8) && (hi == 99 || hi >= -8 && hi <= 8);
                CHECK.due("the bounds of " + c + " and " + d, bounds && lo <= hi, true);
                CHECK.due(c + " and " + d + " are inside", lo <= Math.min(c, d) && hi >= Math.max(c, d),
                    true);
            }
        }
    }

    private static void anyState() {
        SuccessTyping s = new SuccessTyping(2, 32);
        s.begin(0, 0);
        both(s, 0, 2, 1000, 1000);
        Bodies.nodes(CHECK, s, "i5");
        s.end();
        both(s, 0, 2, 1000, 1000);
        s.analyze();
        both(s, 0, 2, 5, 5);
        Bodies.define(CHECK, s, 1, 0, "i2");
        both(s, 0, 2, 5, 5);
        both(s, 1, 2, 1000, 1000);
    }

    private static void leavesNoTrace() {
        Trace.none(CHECK, "intLo() and intHi()", () -> Inferred.made(CHECK), s -> {
            for (int f = -1; f <= 8; f++) {
                for (int which = -1; which <= 3; which++) {
                    s.intLo(f, which);
                    s.intHi(f, which);
                }
            }
        });
    }
}
