/** Promise 6: atoms. */
public final class AtomsTest {
    private static final Check CHECK = new Check();
    private static final int LEAST = Integer.MIN_VALUE;
    private static final int MOST = Integer.MAX_VALUE;

    public static void main(String[] args) {
        CHECK.sentence("answers the mask (0..255) of type which (0 = P0, 1 = P1, 2 = R) of slot f's"
            + " summary.", AtomsTest::masks);
        CHECK.sentence("It answers -1 if f is not in 0..n-1", AtomsTest::slotOutside);
        CHECK.sentence("or which is not in 0..2.", AtomsTest::whichOutside);
        CHECK.sentence("It answers for any slot state, giving whatever the summary holds.",
            AtomsTest::anyState);
        CHECK.sentence("Nothing changes.", AtomsTest::leavesNoTrace);
        CHECK.finish();
    }

    private static void masks() {
        SuccessTyping s = Inferred.made(CHECK);
        for (int f = 0; f < Inferred.SLOTS; f++) {
            for (int which = 0; which <= 2; which++) {
                int due = Inferred.DUE[f * 3 + which][0];
                CHECK.due("atoms(" + f + ", " + which + ")", s.atoms(f, which), due);
            }
        }
        for (int a = 0; a < 8; a++) {
            SuccessTyping one = Bodies.inferred(CHECK, 0, "a" + a);
            CHECK.due("atoms(0, 2) of atom " + a, one.atoms(0, SuccessTyping.WHICH_RESULT), 1 << a);
        }
        SuccessTyping all = Bodies.inferred(CHECK, 1, "v0 int? a5 v0 if");
        CHECK.due("atoms(0, 2) of all atoms", all.atoms(0, SuccessTyping.WHICH_RESULT), 255);
    }

    private static void slotOutside() {
        SuccessTyping s = Inferred.made(CHECK);
        for (int f : new int[] {LEAST, -2, -1, Inferred.SLOTS, 7, 8, 9, MOST}) {
            for (int which = -1; which <= 3; which++) {
                CHECK.due("atoms(" + f + ", " + which + ")", s.atoms(f, which), -1);
            }
        }
        for (int n = 1; n <= 8; n++) {
            SuccessTyping t = new SuccessTyping(n, 16);
            CHECK.due("atoms(0, 0) of " + n + " slots", t.atoms(0, 0), 0);
            CHECK.due("atoms(n - 1, 2) of " + n + " slots", t.atoms(n - 1, 2), 0);
            CHECK.due("atoms(-1, 2) of " + n + " slots", t.atoms(-1, 2), -1);
            CHECK.due("atoms(n, 0) of " + n + " slots", t.atoms(n, 0), -1);
        }
    }

    private static void whichOutside() {
        SuccessTyping s = Inferred.made(CHECK);
        for (int f = 0; f < Inferred.SLOTS; f++) {
            for (int which : new int[] {LEAST, -3, -2, -1, 3, 4, 5, MOST}) {
                CHECK.due("atoms(" + f + ", " + which + ")", s.atoms(f, which), -1);
            }
        }
    }

    private static void anyState() {
        SuccessTyping s = new SuccessTyping(2, 32);
        CHECK.due("atoms(0, 2) of an UNDEFINED slot", s.atoms(0, 2), 0);
        s.begin(0, 0);
        CHECK.due("atoms(0, 2) of a BUILDING slot", s.atoms(0, 2), 0);
        s.analyze();
        CHECK.due("atoms(0, 2) of a BUILDING slot", s.atoms(0, 2), 0);
        Bodies.nodes(CHECK, s, "a5");
        s.end();
        CHECK.due("atoms(0, 2) before analyze()", s.atoms(0, 2), 0);
        s.analyze();
        CHECK.due("atoms(0, 2)", s.atoms(0, 2), 32);
        Bodies.define(CHECK, s, 1, 0, "a2");
        CHECK.due("analyzed()", s.analyzed(), false);
        CHECK.due("atoms(0, 2) of the old summaries", s.atoms(0, 2), 32);
        CHECK.due("atoms(1, 2) of the old summaries", s.atoms(1, 2), 0);
    }

    private static void leavesNoTrace() {
        Trace.none(CHECK, "atoms()", () -> Inferred.made(CHECK), s -> {
            for (int f = -1; f <= 8; f++) {
                for (int which = -1; which <= 3; which++) {
                    s.atoms(f, which);
                }
            }
        });
    }
}
