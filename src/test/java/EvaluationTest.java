/** Promise 9, with "Evaluation": what each kind gives, and when it fails. */
public final class EvaluationTest {
    private static final Check CHECK = new Check();
    private static final int OK = SuccessTyping.RUN_OK;
    private static final int FAIL = SuccessTyping.RUN_FAIL;
    private static final int LIMIT = SuccessTyping.RUN_LIMIT;
    /** In an object of made(), the one fails and the other comes to a limit. */
    private static final String FAILS = "a0 i1 +";
    private static final String LIMITS = "i30 c0/1";

    public static void main(String[] args) {
        CHECK.sentence("INT c gives the integer c. ATOM a gives atom a. VAR j gives parameter j of the"
            + " frame.", EvaluationTest::leaves);
        CHECK.sentence("ADD, SUB and LESS evaluate x, then y.", EvaluationTest::numericInOrder);
        CHECK.sentence("If either value is an atom, the outcome is FAIL.", EvaluationTest::wrongTags);
        CHECK.sentence("ADD gives the sum; FAIL if the result lies outside [-99, 99].",
            EvaluationTest::sums);
        CHECK.sentence("SUB gives x - y; FAIL if the result lies outside [-99, 99].",
            EvaluationTest::differences);
        CHECK.sentence("LESS gives true if x < y, else false.", EvaluationTest::less);
        CHECK.sentence("EQ evaluates x, then y.", EvaluationTest::equalInOrder);
        CHECK.sentence("It gives true if both are the same value (same kind and number), else false.",
            EvaluationTest::equal);
        CHECK.sentence("ISINT gives true if x is an integer, else false.", EvaluationTest::query);
        CHECK.sentence("IF: If x is true, it gives the value of y; if x is false, the value of z",
            EvaluationTest::conditions);
        CHECK.sentence("IF: otherwise FAIL.", EvaluationTest::noTruthValue);
        CHECK.sentence("Exactly one of y and z is evaluated.", EvaluationTest::oneBranch);
        CHECK.sentence("(an IF within an IF)", EvaluationTest::nestedConditions);
        CHECK.sentence("(a body as large as the pool)", EvaluationTest::fullPool);
        CHECK.finish();
    }

    /** Slot 0 counts down, slot 1 has the body. */
    private static SuccessTyping made(int arity, String body) {
        SuccessTyping s = new SuccessTyping(3, 128);
        Bodies.define(CHECK, s, 0, 1, "v0 i0 = i7 v0 i1 - c0/1 if");
        Bodies.define(CHECK, s, 1, arity, body);
        return s;
    }

    private static void gives(String body, int value) {
        CHECK.run(made(0, body), 1, 0, 0, OK, value);
    }

    private static void ends(String body, int outcome) {
        CHECK.run(made(0, body), 1, 0, 0, outcome, 0);
    }

    private static void leaves() {
        for (int c = -99; c <= 99; c++) {
            gives("i" + c, c);
        }
        for (int a = 0; a < 8; a++) {
            gives("a" + a, 1000 + a);
        }
        SuccessTyping s = made(2, "v0 v1 < v0 v1 if");
        CHECK.run(s, 1, -50, 50, OK, -50);
        CHECK.run(s, 1, 50, -50, OK, -50);
        // The frame is that of the call whose body it is, also after another call has returned.
        s = new SuccessTyping(3, 64);
        Bodies.define(CHECK, s, 0, 2, "v1 v0 -");
        Bodies.define(CHECK, s, 1, 2, "v0 i1 + v1 i2 + c0/2 v0 v1 + +");
        CHECK.run(s, 1, 10, 20, OK, 41);
    }

    private static void numericInOrder() {
        for (String kind : new String[] {"+", "-", "<"}) {
            ends(FAILS + " " + LIMITS + " " + kind, FAIL);
            ends(LIMITS + " " + FAILS + " " + kind, LIMIT);
            // Both are evaluated before the tags are looked at.
            ends("a0 " + LIMITS + " " + kind, LIMIT);
            ends(LIMITS + " a0 " + kind, LIMIT);
            ends("a0 " + FAILS + " " + kind, FAIL);
        }
    }

    private static void wrongTags() {
        for (String kind : new String[] {"+", "-", "<"}) {
            SuccessTyping s = made(2, "v0 v1 " + kind);
            for (int a = 1000; a <= 1007; a++) {
                CHECK.run(s, 1, a, 1, FAIL, 0);
                CHECK.run(s, 1, 1, a, FAIL, 0);
                CHECK.run(s, 1, a, -99, FAIL, 0);
                CHECK.run(s, 1, -99, a, FAIL, 0);
                CHECK.run(s, 1, a, a, FAIL, 0);
                CHECK.run(s, 1, 1000, a, FAIL, 0);
            }
        }
    }

    private static void sums() {
        SuccessTyping s = made(2, "v0 v1 +");
        for (int x = -99; x <= 99; x++) {
            for (int y = -99; y <= 99; y++) {
                boolean inside = x + y >= -99 && x + y <= 99;
                CHECK.run(s, 1, x, y, inside ? OK : FAIL, inside ? x + y : 0);
            }
        }
        ends("i99 i1 + i1 -", FAIL);
        ends("i-99 i-1 + i1 +", FAIL);
    }

    private static void differences() {
        SuccessTyping s = made(2, "v0 v1 -");
        for (int x = -99; x <= 99; x++) {
            for (int y = -99; y <= 99; y++) {
                boolean inside = x - y >= -99 && x - y <= 99;
                CHECK.run(s, 1, x, y, inside ? OK : FAIL, inside ? x - y : 0);
            }
        }
        ends("i99 i-1 - i1 -", FAIL);
        ends("i-99 i1 - i1 +", FAIL);
    }

    private static void less() {
        SuccessTyping s = made(2, "v0 v1 <");
        for (int x = -99; x <= 99; x++) {
            for (int y = -99; y <= 99; y++) {
                CHECK.run(s, 1, x, y, OK, x < y ? 1001 : 1000);
            }
        }
    }

    private static void equalInOrder() {
        ends(FAILS + " " + LIMITS + " =", FAIL);
        ends(LIMITS + " " + FAILS + " =", LIMIT);
        ends("i1 " + FAILS + " =", FAIL);
        ends("i1 " + LIMITS + " =", LIMIT);
    }

    private static void equal() {
        SuccessTyping s = made(2, "v0 v1 =");
        int[] codes = {-99, -7, -1, 0, 1, 2, 7, 99, 1000, 1001, 1002, 1007};
        for (int x : codes) {
            for (int y : codes) {
                CHECK.run(s, 1, x, y, OK, x == y ? 1001 : 1000);
            }
        }
    }

    private static void query() {
        SuccessTyping s = made(1, "v0 int?");
        for (int c = -99; c <= 99; c++) {
            CHECK.run(s, 1, c, 0, OK, 1001);
        }
        for (int a = 1000; a <= 1007; a++) {
            CHECK.run(s, 1, a, 0, OK, 1000);
        }
        ends(FAILS + " int?", FAIL);
        ends(LIMITS + " int?", LIMIT);
    }

    private static void conditions() {
        gives("a1 i1 i2 if", 1);
        gives("a0 i1 i2 if", 2);
        SuccessTyping s = made(2, "v0 v1 i1 + v1 if");
        CHECK.run(s, 1, 1001, 98, OK, 99);
        CHECK.run(s, 1, 1000, 99, OK, 99);
        CHECK.run(s, 1, 1001, 1003, FAIL, 0);
        CHECK.run(s, 1, 1000, 1003, OK, 1003);
        ends(FAILS + " i1 i2 if", FAIL);
        ends(LIMITS + " i1 i2 if", LIMIT);
    }

    private static void noTruthValue() {
        SuccessTyping s = made(1, "v0 i1 i2 if");
        for (int c = -99; c <= 99; c++) {
            CHECK.run(s, 1, c, 0, FAIL, 0);
        }
        for (int a = 1002; a <= 1007; a++) {
            CHECK.run(s, 1, a, 0, FAIL, 0);
        }
        // Neither branch is evaluated then.
        ends("a2 " + LIMITS + " " + LIMITS + " if", FAIL);
        ends("i1 " + LIMITS + " " + LIMITS + " if", FAIL);
    }

    private static void oneBranch() {
        gives("a1 i1 " + FAILS + " if", 1);
        gives("a1 i1 " + LIMITS + " if", 1);
        gives("a0 " + FAILS + " i2 if", 2);
        gives("a0 " + LIMITS + " i2 if", 2);
        gives("a0 c2/0 i2 if", 2);
        gives("a1 i1 c2/0 if", 1);
        ends("a1 " + FAILS + " " + LIMITS + " if", FAIL);
        ends("a1 " + LIMITS + " " + FAILS + " if", LIMIT);
        ends("a0 " + FAILS + " " + LIMITS + " if", LIMIT);
        ends("a0 " + LIMITS + " " + FAILS + " if", FAIL);
    }

    private static void nestedConditions() {
        // An IF as the condition, as the first branch and as the second branch of another.
        SuccessTyping s = made(2, "v0 v1 v0 if v0 v1 i1 i2 if i3 if v1 i4 i5 if if");
        CHECK.run(s, 1, 1001, 1001, OK, 1);
        CHECK.run(s, 1, 1001, 1000, OK, 5);
        CHECK.run(s, 1, 1000, 1001, OK, 4);
        CHECK.run(s, 1, 1000, 1000, OK, 5);
        CHECK.run(s, 1, 1001, 1002, FAIL, 0);
        s = made(1, "v0 int? v0 i9 < i1 i2 if v0 i3 i4 if if i10 +");
        CHECK.run(s, 1, 5, 0, OK, 11);
        CHECK.run(s, 1, 9, 0, OK, 12);
        CHECK.run(s, 1, 1001, 0, OK, 13);
        CHECK.run(s, 1, 1000, 0, OK, 14);
        CHECK.run(s, 1, 1004, 0, FAIL, 0);
    }

    private static void fullPool() {
        SuccessTyping s = new SuccessTyping(8, 128);
        s.begin(7, 1);
        Bodies.nodes(CHECK, s, "v0");
        for (int i = 1; i < 64; i++) {
            Bodies.nodes(CHECK, s, "i1");
            // As many sums as i has trailing ones keep the tree balanced.
            for (int bits = i; bits % 2 == 1; bits /= 2) {
                Bodies.nodes(CHECK, s, "+");
            }
        }
        Bodies.nodes(CHECK, s, "int?");
        CHECK.due("bodySize(7)", s.bodySize(7), 128);
        CHECK.due("node(0, 1, 0)", s.node(0, 1, 0), false);
        CHECK.due("end()", s.end(), 7);
        CHECK.run(s, 7, 36, 0, OK, 1001);
        CHECK.run(s, 7, 37, 0, FAIL, 0);
        CHECK.due("analyze()", s.analyze(), 0);
        CHECK.ints(s, 7, 0);
        CHECK.mask(s, 7, 2, 2);
    }
}
