/** Promise 8: member. */
public final class MemberTest {
    private static final Check CHECK = new Check();

    public static void main(String[] args) {
        SuccessTyping s = new SuccessTyping(6, 64);
        Bodies.define(CHECK, s, 0, 1, "v0 i-3 v0 a5 i4 if if");
        Bodies.define(CHECK, s, 1, 0, "i50");
        Bodies.define(CHECK, s, 2, 2, "v0 v1 <");
        Bodies.define(CHECK, s, 3, 1, "v0");
        Bodies.define(CHECK, s, 4, 0, "i0");
        members(s, 4, 2, 0, 1, 0);
        s.analyze();
        members(s, 0, 0, 3, 1, 0);
        members(s, 0, 1, 0, 1, 0);
        members(s, 0, 2, 32, -3, 4);
        members(s, 1, 2, 0, 8, 99);
        members(s, 2, 0, 0, -99, 99);
        members(s, 2, 1, 0, -99, 99);
        members(s, 2, 2, 3, 1, 0);
        members(s, 3, 0, 255, -99, 99);
        members(s, 3, 2, 255, -99, 99);
        members(s, 4, 2, 0, 0, 0);
        members(s, 5, 2, 0, 1, 0);
        refusals(s);
        CHECK.finish();
    }

    /** Asks for every int around the value codes; lo above hi means that no integer is due. */
    private static void members(SuccessTyping s, int f, int which, int mask, int lo, int hi) {
        for (int v = -1200; v <= 1200; v++) {
            boolean atom = v >= 1000 && v <= 1007 && (mask >> (v - 1000) & 1) == 1;
            boolean number = v >= -99 && v <= 99 && lo <= v && v <= hi;
            String call = "member(" + f + ", " + which + ", " + v + ")";
            CHECK.due(call, s.member(f, which, v), atom || number);
        }
        for (int v : new int[] {Integer.MIN_VALUE, Integer.MAX_VALUE, 1 << 16, -(1 << 16)}) {
            String call = "member(" + f + ", " + which + ", " + v + ")";
            CHECK.due(call, s.member(f, which, v), false);
        }
    }

    private static void refusals(SuccessTyping s) {
        String before = Snapshot.of(s);
        int[] wrong = {Integer.MIN_VALUE, -1, 6, 8, Integer.MAX_VALUE};
        int[] whiches = {Integer.MIN_VALUE, -1, 3, 4, Integer.MAX_VALUE};
        for (int v : new int[] {-99, 0, 5, 99, 1000, 1001, 1007, 100, -100, 999, 1008}) {
            for (int f : wrong) {
                CHECK.due("member(" + f + ", 0, " + v + ")", s.member(f, 0, v), false);
                CHECK.due("member(" + f + ", 2, " + v + ")", s.member(f, 2, v), false);
            }
            for (int which : whiches) {
                CHECK.due("member(3, " + which + ", " + v + ")", s.member(3, which, v), false);
            }
        }
        CHECK.due("the object after member()", Snapshot.of(s), before);
    }
}
