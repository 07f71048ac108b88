/** Promise 7: intLo and intHi. */
public final class IntBoundsTest {
    private static final Check CHECK = new Check();

    public static void main(String[] args) {
        SuccessTyping s = new SuccessTyping(5, 64);
        Bodies.define(CHECK, s, 0, 2, "v0 v1 i-3 + i4 if");
        Bodies.define(CHECK, s, 1, 1, "v0 i-3 i4 if");
        Bodies.define(CHECK, s, 2, 0, "i50");
        Bodies.define(CHECK, s, 3, 0, "i-50");
        before(s);
        s.analyze();
        CHECK.any(s, 0, 1);
        CHECK.mask(s, 0, 0, 3);
        CHECK.due("intLo(1, 2)", s.intLo(1, SuccessTyping.WHICH_RESULT), -3);
        CHECK.due("intHi(1, 2)", s.intHi(1, SuccessTyping.WHICH_RESULT), 4);
        CHECK.due("intLo(2, 2)", s.intLo(2, 2), 8);
        CHECK.due("intHi(2, 2)", s.intHi(2, 2), 99);
        CHECK.due("intLo(3, 2)", s.intLo(3, 2), -99);
        CHECK.due("intHi(3, 2)", s.intHi(3, 2), -8);
        CHECK.due("intLo(1, 1) past the arity", s.intLo(1, 1), SuccessTyping.NO_INT);
        CHECK.due("intHi(1, 1) past the arity", s.intHi(1, 1), SuccessTyping.NO_INT);
        CHECK.due("intLo(4, 2) of an undefined slot", s.intLo(4, 2), SuccessTyping.NO_INT);
        CHECK.due("intHi(4, 2) of an undefined slot", s.intHi(4, 2), SuccessTyping.NO_INT);
        refusals(s);
        CHECK.finish();
    }

    private static void before(SuccessTyping s) {
        CHECK.due("intLo(2, 2) before analyze()", s.intLo(2, 2), SuccessTyping.NO_INT);
        CHECK.due("intHi(2, 2) before analyze()", s.intHi(2, 2), SuccessTyping.NO_INT);
    }

    private static void refusals(SuccessTyping s) {
        String before = Snapshot.of(s);
        int[] wrong = {Integer.MIN_VALUE, -1, 5, 8, Integer.MAX_VALUE};
        for (int f : wrong) {
            for (int which = -1; which <= 3; which++) {
                refused(s, f, which);
            }
        }
        for (int which : new int[] {Integer.MIN_VALUE, -1, 3, 4, Integer.MAX_VALUE}) {
            refused(s, 0, which);
            refused(s, 1, which);
        }
        CHECK.due("the object after intLo() and intHi()", Snapshot.of(s), before);
    }

    private static void refused(SuccessTyping s, int f, int which) {
        String at = "(" + f + ", " + which + ")";
        CHECK.due("intLo" + at, s.intLo(f, which), SuccessTyping.BAD);
        CHECK.due("intHi" + at, s.intHi(f, which), SuccessTyping.BAD);
    }
}
