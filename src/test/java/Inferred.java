/** An object whose summaries hold all sorts of types, for the questions of promises 6 to 8. */
final class Inferred {
    static final int SLOTS = 6;
    /** What each slot's summary holds, three types each, as mask, lo and hi. */
    static final int[][] DUE = {
        {3, 1000, 1000}, {255, -99, 99}, {192, -3, 4},
        {0, -99, 99}, {0, 1000, 1000}, {0, -99, 99},
        {0, 1000, 1000}, {0, 1000, 1000}, {0, 8, 99},
        {255, -99, 99}, {0, 1000, 1000}, {255, -99, 99},
        {0, 1000, 1000}, {0, 1000, 1000}, {0, 1000, 1000},
        {0, 1000, 1000}, {0, 1000, 1000}, {0, 1000, 1000},
    };

    private Inferred() {
    }

    /** Slot 4 is flagged and slot 5 is UNDEFINED. */
    static SuccessTyping made(Check check) {
        SuccessTyping s = defined(check);
        s.analyze();
        s.run(1, 5, 0);
        return s;
    }

    static SuccessTyping defined(Check check) {
        SuccessTyping s = new SuccessTyping(SLOTS, 64);
        Bodies.define(check, s, 0, 2, "v0 v0 i-3 i4 if v1 int? a7 a6 if if");
        Bodies.define(check, s, 1, 1, "v0 i1 +");
        Bodies.define(check, s, 2, 0, "i50");
        Bodies.define(check, s, 3, 1, "v0");
        Bodies.define(check, s, 4, 2, "v0 v1 c4/2");
        return s;
    }
}
