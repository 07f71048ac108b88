/** Promise 8: member, with "Value codes". */
public final class MemberTest {
    private static final Check CHECK = new Check();
    private static final int LEAST = Integer.MIN_VALUE;
    private static final int MOST = Integer.MAX_VALUE;
    private static final int[] CODES = {-99, -98, -1, 0, 1, 98, 99, 1000, 1001, 1006, 1007};
    private static final int[] NO_CODES = {LEAST, LEAST + 1, -100000, -1001, -1000, -101, -100, 100,
        101, 500, 998, 999, 1008, 1009, 1032, 1255, 2000, 100000, MOST - 1, MOST};

    public static void main(String[] args) {
        CHECK.sentence("An integer code c is contained if the ints is [lo, hi] with lo <= c <= hi.",
            MemberTest::integers);
        CHECK.sentence("An atom code ATOM_BASE + a is contained if bit a of the mask is 1.",
            MemberTest::atoms);
        CHECK.sentence("A code c with -99 <= c <= 99 stands for the integer c.",
            MemberTest::integerEdges);
        CHECK.sentence("A code c = ATOM_BASE + a with 0 <= a <= 7 stands for atom a.",
            MemberTest::atomEdges);
        CHECK.sentence("member is false if v is not a value code.", MemberTest::notCodes);
        CHECK.sentence("member is false if f is not in 0..n-1", MemberTest::slotOutside);
        CHECK.sentence("member is false if which is not in 0..2", MemberTest::whichOutside);
        CHECK.sentence("type which of slot f's summary", MemberTest::everySummary);
        CHECK.sentence("(it answers for any slot state)", MemberTest::anyState);
        CHECK.sentence("Nothing changes.", MemberTest::leavesNoTrace);
        CHECK.finish();
    }

    private static void asks(SuccessTyping s, int f, int which, int v, boolean due) {
        CHECK.due("member(" + f + ", " + which + ", " + v + ")", s.member(f, which, v), due);
    }

    private static void integers() {
        int[][] ends = {{-3, 4}, {0, 0}, {-8, 8}, {1, 1}, {-1, -1}, {8, 8}, {-8, -8}};
        for (int[] end : ends) {
            String body = "v0 i" + end[0] + " i" + end[1] + " if";
            SuccessTyping s = Bodies.inferred(CHECK, 1, body);
            for (int c = -99; c <= 99; c++) {
                asks(s, 0, 2, c, end[0] <= c && c <= end[1]);
            }
        }
        SuccessTyping high = Bodies.inferred(CHECK, 0, "i50");
        SuccessTyping low = Bodies.inferred(CHECK, 0, "i-50");
        SuccessTyping none = Bodies.inferred(CHECK, 0, "a0");
        for (int c = -99; c <= 99; c++) {
            asks(high, 0, 2, c, c >= 8);
            asks(low, 0, 2, c, c <= -8);
            asks(none, 0, 2, c, false);
        }
    }

    private static void atoms() {
        for (int a = 0; a < 8; a++) {
            SuccessTyping s = Bodies.inferred(CHECK, 0, "a" + a);
            SuccessTyping t = Bodies.inferred(CHECK, 1, "v0 a" + a + " i5 if");
            SuccessTyping none = Bodies.inferred(CHECK, 0, "i" + a);
            for (int b = 0; b < 8; b++) {
                asks(s, 0, 2, 1000 + b, a == b);
                asks(t, 0, 2, 1000 + b, a == b);
                asks(none, 0, 2, 1000 + b, false);
            }
        }
    }

    private static SuccessTyping any() {
        return Bodies.inferred(CHECK, 1, "v0");
    }

    private static void integerEdges() {
        SuccessTyping s = any();
        for (int v : new int[] {-99, -98, 98, 99}) {
            asks(s, 0, 2, v, true);
            asks(s, 0, 0, v, true);
        }
        for (int v : new int[] {-101, -100, 100, 101}) {
            asks(s, 0, 2, v, false);
            asks(s, 0, 0, v, false);
        }
    }

    private static void atomEdges() {
        SuccessTyping s = any();
        for (int v : new int[] {1000, 1001, 1006, 1007}) {
            asks(s, 0, 2, v, true);
            asks(s, 0, 0, v, true);
        }
        for (int v : new int[] {-1000, 998, 999, 1008, 1009}) {
            asks(s, 0, 2, v, false);
            asks(s, 0, 0, v, false);
        }
    }

    private static void notCodes() {
        SuccessTyping s = any();
        for (int v : NO_CODES) {
            asks(s, 0, 2, v, false);
            asks(s, 0, 0, v, false);
        }
        for (int v = -3000; v <= 3000; v++) {
            asks(s, 0, 2, v, v >= -99 && v <= 99 || v >= 1000 && v <= 1007);
        }
        // A power of two away from a code, the bits that a mask or a bound would keep are the same.
        for (int bit = 10; bit < 32; bit++) {
            for (int code : CODES) {
                int away = code ^ 1 << bit;
                asks(s, 0, 2, away, away >= -99 && away <= 99);
            }
        }
    }

    private static void slotOutside() {
        SuccessTyping s = Inferred.made(CHECK);
        for (int v : CODES) {
            for (int f : new int[] {LEAST, -2, -1, Inferred.SLOTS, 7, 8, 9, MOST}) {
                for (int which = -1; which <= 3; which++) {
                    asks(s, f, which, v, false);
                }
            }
        }
        for (int n = 1; n <= 8; n++) {
            SuccessTyping t = new SuccessTyping(n, 16);
            Bodies.define(CHECK, t, n - 1, 2, "v0");
            t.analyze();
            asks(t, n - 1, 0, 5, true);
            asks(t, n - 1, 2, 5, true);
            asks(t, n, 0, 5, false);
            asks(t, -1, 2, 5, false);
        }
    }

    private static void whichOutside() {
        SuccessTyping s = new SuccessTyping(3, 16);
        for (int f = 0; f < 3; f++) {
            Bodies.define(CHECK, s, f, 2, "v0");
        }
        s.analyze();
        for (int v : CODES) {
            for (int f = 0; f < 3; f++) {
                for (int which : new int[] {LEAST, -3, -2, -1, 3, 4, 5, MOST}) {
                    asks(s, f, which, v, false);
                }
            }
        }
    }

    private static void everySummary() {
        SuccessTyping s = Inferred.made(CHECK);
        for (int f = 0; f < Inferred.SLOTS; f++) {
            for (int which = 0; which <= 2; which++) {
                int[] type = Inferred.DUE[f * 3 + which];
                for (int v = -120; v <= 1020; v++) {
                    boolean integer = v >= -99 && v <= 99 && type[1] <= v && v <= type[2];
                    boolean atom = v >= 1000 && v <= 1007 && (type[0] >> (v - 1000)) % 2 == 1;
                    asks(s, f, which, v, integer || atom);
                }
            }
        }
    }

    private static void anyState() {
        SuccessTyping s = new SuccessTyping(2, 32);
        s.begin(0, 1);
        asks(s, 0, 0, 5, false);
        Bodies.nodes(CHECK, s, "v0");
        s.analyze();
        asks(s, 0, 0, 5, false);
        s.end();
        asks(s, 0, 0, 5, false);
        asks(s, 0, 2, 0, false);
        s.analyze();
        asks(s, 0, 0, 5, true);
        Bodies.define(CHECK, s, 1, 1, "v0");
        asks(s, 0, 0, 5, true);
        asks(s, 1, 0, 5, false);
    }

    private static void leavesNoTrace() {
        Trace.none(CHECK, "member()", () -> Inferred.made(CHECK), s -> {
            for (int f = -1; f <= 8; f++) {
                for (int which = -1; which <= 3; which++) {
                    for (int v : CODES) {
                        s.member(f, which, v);
                    }
                }
            }
        });
    }
}
