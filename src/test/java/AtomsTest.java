/** Promise 6: atoms. */
public final class AtomsTest {
    private static final Check CHECK = new Check();

    public static void main(String[] args) {
        SuccessTyping s = new SuccessTyping(4, 32);
        Bodies.define(CHECK, s, 0, 2, "v0 v1 v1 int? a7 a6 if if");
        Bodies.define(CHECK, s, 1, 1, "v0 i1 +");
        CHECK.due("atoms(0, 0) before analyze()", s.atoms(0, 0), 0);
        s.analyze();
        CHECK.due("atoms(0, 0)", s.atoms(0, SuccessTyping.WHICH_P0), 3);
        CHECK.due("atoms(0, 1)", s.atoms(0, SuccessTyping.WHICH_P1), 255);
        CHECK.due("atoms(0, 2)", s.atoms(0, SuccessTyping.WHICH_RESULT), 255);
        CHECK.due("atoms(1, 0)", s.atoms(1, 0), 0);
        CHECK.due("atoms(1, 1)", s.atoms(1, 1), 0);
        CHECK.due("atoms(1, 2)", s.atoms(1, 2), 0);
        CHECK.due("atoms(3, 2) of an undefined slot", s.atoms(3, 2), 0);
        refusals(s);
        everyState();
        CHECK.finish();
    }

    private static void refusals(SuccessTyping s) {
        String before = Snapshot.of(s);
        for (int f : new int[] {Integer.MIN_VALUE, -1, 4, 8, Integer.MAX_VALUE}) {
            for (int which = -1; which <= 3; which++) {
                CHECK.due("atoms(" + f + ", " + which + ")", s.atoms(f, which), -1);
            }
        }
        for (int which : new int[] {Integer.MIN_VALUE, -1, 3, 4, Integer.MAX_VALUE}) {
            CHECK.due("atoms(0, " + which + ")", s.atoms(0, which), -1);
            CHECK.due("atoms(1, " + which + ")", s.atoms(1, which), -1);
        }
        CHECK.due("the object after atoms()", Snapshot.of(s), before);
    }

    private static void everyState() {
        SuccessTyping s = new SuccessTyping(2, 32);
        s.begin(0, 0);
        s.analyze();
        CHECK.due("atoms(0, 2) of a building slot", s.atoms(0, 2), 0);
        Bodies.nodes(CHECK, s, "a5");
        s.end();
        CHECK.due("atoms(0, 2) before analyze()", s.atoms(0, 2), 0);
        s.analyze();
        CHECK.due("atoms(0, 2)", s.atoms(0, 2), 32);
        Bodies.define(CHECK, s, 1, 0, "a2");
        CHECK.due("atoms(0, 2) of the old summaries", s.atoms(0, 2), 32);
    }
}
