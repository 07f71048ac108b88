import java.util.function.Consumer;

/** Promise 5: when analyze() infers, what it counts, and what analyzed() says. */
public final class AnalyzeTest {
    private static final Check CHECK = new Check();
    private static final int[] CODES = new int[207];

    public static void main(String[] args) {
        for (int i = 0; i < CODES.length; i++) {
            CODES[i] = i < 199 ? i - 99 : 1000 + i - 199;
        }
        CHECK.sentence("replaces all summaries by the least table T with STEP(T) = T for the slots"
            + " DEFINED now.", AnalyzeTest::slotsDefinedNow);
        CHECK.sentence("A BUILDING slot counts as not DEFINED, so it gets all EMPTY",
            AnalyzeTest::buildingIsEmpty);
        CHECK.sentence("like every UNDEFINED slot.", AnalyzeTest::undefinedIsEmpty);
        CHECK.sentence("analyzed() becomes true.", AnalyzeTest::becomesTrue);
        CHECK.sentence("The answer is the number of DEFINED slots whose R is EMPTY",
            AnalyzeTest::countsFlagged);
        CHECK.sentence("analyze is never refused", AnalyzeTest::neverRefused);
        CHECK.sentence("and it changes no slot, body, pool or result().",
            AnalyzeTest::changesNothingElse);
        CHECK.sentence("`analyzed()` is true if analyze() has been called",
            AnalyzeTest::falseBeforeAnalyze);
        CHECK.sentence("and no end() has answered a slot index since the last analyze() call.",
            AnalyzeTest::falseAfterBody);
        CHECK.sentence("No begin (accepted or refused) changes it.", AnalyzeTest::beginKeepsIt);
        CHECK.sentence("No node (accepted or refused) changes it.", AnalyzeTest::nodeKeepsIt);
        CHECK.sentence("no END_DISCARDED or END_NOT_BUILDING changes it.", AnalyzeTest::endKeepsIt);
        CHECK.sentence("no run changes it.", AnalyzeTest::runKeepsIt);
        CHECK.sentence("(no question changes it)", AnalyzeTest::questionsKeepIt);
        CHECK.sentence("if arity(f) >= 1, member(f, 0, x) is true", () -> coverRuns(0));
        CHECK.sentence("if arity(f) = 2, member(f, 1, y) is true", () -> coverRuns(1));
        CHECK.sentence("member(f, 2, result()) is true", () -> coverRuns(2));
        CHECK.sentence("a run whose argument is outside the inferred domain never answers RUN_OK.",
            AnalyzeTest::outsideNeverSucceeds);
        CHECK.sentence("Nor does a run of a flagged slot answer RUN_OK.",
            AnalyzeTest::flaggedNeverSucceeds);
        CHECK.finish();
    }

    private static void slotsDefinedNow() {
        SuccessTyping s = new SuccessTyping(3, 32);
        Bodies.define(CHECK, s, 0, 1, "v0 int? i1 v0 c1/1 if");
        s.analyze();
        CHECK.ints(s, 0, 0);
        CHECK.range(s, 0, 2, 1, 1);
        Bodies.define(CHECK, s, 1, 1, "v0 a2 a3 if");
        CHECK.ints(s, 0, 0);
        CHECK.allEmpty(s, 1);
        s.analyze();
        CHECK.type(s, 0, 0, 3, -99, 99);
        CHECK.type(s, 0, 2, 12, 1, 1);
        CHECK.mask(s, 1, 2, 12);
    }

    private static void buildingIsEmpty() {
        SuccessTyping s = new SuccessTyping(2, 16);
        Bodies.define(CHECK, s, 0, 0, "c1/0");
        s.begin(1, 0);
        Bodies.nodes(CHECK, s, "i4");
        CHECK.due("analyze()", s.analyze(), 1);
        CHECK.allEmpty(s, 0);
        CHECK.allEmpty(s, 1);
        CHECK.due("end()", s.end(), 1);
        CHECK.allEmpty(s, 1);
        CHECK.due("analyze()", s.analyze(), 0);
        CHECK.range(s, 0, 2, 4, 4);
        CHECK.range(s, 1, 2, 4, 4);
    }

    private static void undefinedIsEmpty() {
        SuccessTyping s = new SuccessTyping(8, 16);
        s.analyze();
        for (int f = 0; f < 8; f++) {
            CHECK.allEmpty(s, f);
        }
        Bodies.define(CHECK, s, 3, 2, "v0 v1 =");
        s.begin(5, 2);
        Bodies.nodes(CHECK, s, "v0 v1");
        s.end();
        s.analyze();
        for (int f = 0; f < 8; f++) {
            if (f != 3) {
                CHECK.allEmpty(s, f);
            }
        }
    }

    private static void becomesTrue() {
        SuccessTyping s = new SuccessTyping(2, 16);
        s.analyze();
        CHECK.due("analyzed() without a body", s.analyzed(), true);
        Bodies.define(CHECK, s, 0, 0, "c1/0");
        s.analyze();
        CHECK.due("analyzed() with a flagged slot", s.analyzed(), true);
        s.begin(1, 0);
        s.analyze();
        CHECK.due("analyzed() with a BUILDING slot", s.analyzed(), true);
        s.analyze();
        CHECK.due("analyzed() after analyze() again", s.analyzed(), true);
    }

    private static void countsFlagged() {
        SuccessTyping s = new SuccessTyping(8, 64);
        CHECK.due("analyze() without a body", s.analyze(), 0);
        Bodies.define(CHECK, s, 0, 0, "i1 a1 +");
        CHECK.due("analyze()", s.analyze(), 1);
        Bodies.define(CHECK, s, 7, 1, "v0 c7/1");
        CHECK.due("analyze()", s.analyze(), 2);
        Bodies.define(CHECK, s, 3, 2, "v0 v1 <");
        CHECK.due("analyze()", s.analyze(), 2);
        Bodies.define(CHECK, s, 4, 0, "c0/0");
        CHECK.due("analyze()", s.analyze(), 3);
        CHECK.due("analyze() again", s.analyze(), 3);
        s = new SuccessTyping(8, 64);
        for (int f = 0; f < 8; f++) {
            Bodies.define(CHECK, s, f, 0, "c" + (f + 1) % 8 + "/0");
            CHECK.due("analyze()", s.analyze(), f + 1);
        }
    }

    private static void neverRefused() {
        SuccessTyping s = new SuccessTyping(2, 16);
        s.begin(0, 0);
        Bodies.fill(s);
        s.analyze();
        CHECK.due("analyzed() with a full pool", s.analyzed(), true);
        s.end();
        Bodies.define(CHECK, s, 0, 1, "v0");
        s.begin(1, 0);
        Bodies.fill(s);
        s.analyze();
        CHECK.due("analyzed() while building", s.analyzed(), true);
        CHECK.any(s, 0, 2);
        s.end();
        s.run(0, 500, 0);
        s.analyze();
        CHECK.due("analyzed() after a refused run", s.analyzed(), true);
    }

    private static SuccessTyping halfBuilt() {
        SuccessTyping s = new SuccessTyping(3, 16);
        Bodies.define(CHECK, s, 0, 1, "v0 i1 +");
        s.run(0, 6, 0);
        s.begin(1, 2);
        Bodies.nodes(CHECK, s, "v0 v1");
        return s;
    }

    private static void changesNothingElse() {
        Trace.none(CHECK, "analyze() again", () -> {
            SuccessTyping s = halfBuilt();
            s.analyze();
            return s;
        }, SuccessTyping::analyze);
        SuccessTyping s = halfBuilt();
        s.analyze();
        CHECK.due("result()", s.result(), 7);
        CHECK.due("pending()", s.pending(), 2);
        CHECK.due("building()", s.building(), 1);
        CHECK.due("bodySize(0)", s.bodySize(0), 3);
        CHECK.due("bodySize(1)", s.bodySize(1), 2);
        CHECK.due("arity(1)", s.arity(1), 2);
        CHECK.due("bodySize(2)", s.bodySize(2), -1);
        Bodies.nodes(CHECK, s, "=");
        CHECK.due("room", Bodies.fill(s), 10);
        SuccessTyping t = halfBuilt();
        t.analyze();
        Bodies.nodes(CHECK, t, "=");
        CHECK.due("end()", t.end(), 1);
        CHECK.run(t, 1, 1003, 1003, SuccessTyping.RUN_OK, 1001);
    }

    private static void falseBeforeAnalyze() {
        SuccessTyping s = new SuccessTyping(2, 16);
        CHECK.due("analyzed() at the start", s.analyzed(), false);
        Bodies.define(CHECK, s, 0, 1, "v0");
        CHECK.due("analyzed() after a body", s.analyzed(), false);
        s.analyze();
        CHECK.due("analyzed() after analyze()", s.analyzed(), true);
    }

    private static void falseAfterBody() {
        SuccessTyping s = new SuccessTyping(3, 16);
        for (int f = 0; f < 3; f++) {
            s.analyze();
            CHECK.due("analyzed() after analyze()", s.analyzed(), true);
            Bodies.define(CHECK, s, f, 0, "i1");
            CHECK.due("analyzed() after a body", s.analyzed(), false);
        }
        // A body that was begun before analyze() but ends after it counts.
        s = new SuccessTyping(3, 16);
        s.begin(0, 0);
        Bodies.nodes(CHECK, s, "i1");
        s.analyze();
        s.end();
        CHECK.due("analyzed() after end()", s.analyzed(), false);
    }

    /** The calls are made on an object that is analyzed and on one that isn't. */
    private static void keepsIt(String calls, Consumer<SuccessTyping> made) {
        for (boolean analyzed : new boolean[] {true, false}) {
            SuccessTyping s = new SuccessTyping(3, 16);
            Bodies.define(CHECK, s, 0, 1, "v0 i0 = i1 v0 i1 - c0/1 if");
            if (analyzed) {
                s.analyze();
            }
            made.accept(s);
            CHECK.due("analyzed() after " + calls, s.analyzed(), analyzed);
        }
    }

    private static void beginKeepsIt() {
        keepsIt("begin(1, 0)", s -> s.begin(1, 0));
        keepsIt("begin(0, 0)", s -> s.begin(0, 0));
        keepsIt("begin(3, 0)", s -> s.begin(3, 0));
        keepsIt("begin(1, 3)", s -> s.begin(1, 3));
    }

    private static void nodeKeepsIt() {
        keepsIt("node(0, 1, 0) without a slot", s -> s.node(0, 1, 0));
        for (int kind : new int[] {-1, 0, 1, 2, 3, 7, 8, 9, 10}) {
            keepsIt("a node of kind " + kind, s -> {
                s.begin(1, 1);
                s.node(kind, 0, 0);
            });
        }
        keepsIt("a full pool", s -> {
            s.begin(1, 1);
            Bodies.fill(s);
        });
    }

    private static void endKeepsIt() {
        keepsIt("END_NOT_BUILDING",
            s -> CHECK.due("end()", s.end(), SuccessTyping.END_NOT_BUILDING));
        keepsIt("END_DISCARDED of an empty body", s -> {
            s.begin(1, 1);
            CHECK.due("end()", s.end(), SuccessTyping.END_DISCARDED);
        });
        keepsIt("END_DISCARDED of two nodes", s -> {
            s.begin(1, 1);
            Bodies.nodes(CHECK, s, "v0 v0");
            CHECK.due("end()", s.end(), SuccessTyping.END_DISCARDED);
        });
    }

    private static void runKeepsIt() {
        keepsIt("RUN_OK", s -> CHECK.run(s, 0, 3, 0, SuccessTyping.RUN_OK, 1));
        keepsIt("RUN_FAIL", s -> CHECK.run(s, 0, 1003, 0, SuccessTyping.RUN_FAIL, 0));
        keepsIt("RUN_LIMIT", s -> CHECK.run(s, 0, 30, 0, SuccessTyping.RUN_LIMIT, 0));
        keepsIt("RUN_REFUSED", s -> CHECK.run(s, 1, 3, 0, SuccessTyping.RUN_REFUSED, 0));
    }

    private static void questionsKeepIt() {
        keepsIt("all questions", Snapshot::of);
    }

    /** Slots 0 to 3 give values for some arguments, 4 to 6 for none; slot 7 is BUILDING. */
    private static SuccessTyping someFunctions() {
        SuccessTyping s = new SuccessTyping(8, 128);
        Bodies.define(CHECK, s, 0, 1, "v0 int? v0 i1 < i0 v0 v0 i1 - c0/1 + if v0 a3 a4 if if");
        Bodies.define(CHECK, s, 1, 2, "v0 v1 < v0 v1 - v1 c0/1 if");
        Bodies.define(CHECK, s, 2, 2, "v0 v1 c3/1 v1 if");
        Bodies.define(CHECK, s, 3, 1, "v0 i5 +");
        Bodies.define(CHECK, s, 4, 1, "v0 c4/1");
        Bodies.define(CHECK, s, 5, 2, "v0 c7/1 v1 v0 if");
        Bodies.define(CHECK, s, 6, 0, "a1 c3/1");
        CHECK.due("analyze()", s.analyze(), 3);
        s.begin(7, 1);
        Bodies.nodes(CHECK, s, "v0 a1 =");
        CHECK.due("analyzed()", s.analyzed(), true);
        return s;
    }

    private static void coverRuns(int which) {
        SuccessTyping s = someFunctions();
        int succeeded = 0;
        for (int f = 0; f < 7; f++) {
            for (int x : CODES) {
                for (int y : CODES) {
                    if (s.run(f, x, y) == SuccessTyping.RUN_OK) {
                        covered(s, f, which, which == 0 ? x : which == 1 ? y : s.result());
                        succeeded++;
                    }
                }
            }
        }
        CHECK.due("many runs that succeed", succeeded > 10000, true);
    }

    private static void covered(SuccessTyping s, int f, int which, int v) {
        if (which == SuccessTyping.WHICH_RESULT || which < s.arity(f)) {
            String call = "member(" + f + ", " + which + ", " + v + ")";
            CHECK.due(call + " after RUN_OK", s.member(f, which, v), true);
        }
    }

    private static void outsideNeverSucceeds() {
        SuccessTyping s = someFunctions();
        int outside = 0;
        for (int f = 0; f < 7; f++) {
            for (int x : CODES) {
                for (int y : CODES) {
                    boolean first = s.arity(f) >= 1 && !s.member(f, 0, x);
                    boolean second = s.arity(f) == 2 && !s.member(f, 1, y);
                    if (first || second) {
                        outside++;
                        CHECK.due("RUN_OK", s.run(f, x, y) == SuccessTyping.RUN_OK, false);
                    }
                }
            }
        }
        CHECK.due("many arguments outside", outside > 10000, true);
    }

    private static void flaggedNeverSucceeds() {
        SuccessTyping s = someFunctions();
        for (int f = 4; f <= 6; f++) {
            CHECK.due("atoms(f, 2)", s.atoms(f, 2), 0);
            CHECK.due("intLo(f, 2)", s.intLo(f, 2), SuccessTyping.NO_INT);
            for (int x : CODES) {
                for (int y : CODES) {
                    CHECK.due("RUN_OK", s.run(f, x, y) == SuccessTyping.RUN_OK, false);
                }
            }
        }
    }
}
