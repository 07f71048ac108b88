/** Promise 5: when analyze() infers, what it counts, and what it leaves alone. */
public final class AnalyzeTest {
    private static final Check CHECK = new Check();

    public static void main(String[] args) {
        withoutFunctions();
        countsNeverReturning();
        buildingCountsAsUndefined();
        analyzedTurnsFalseAtEndOnly();
        changesNothingElse();
        replacesOldSummaries();
        typesCoverEveryRun();
        CHECK.finish();
    }

    private static void withoutFunctions() {
        SuccessTyping s = new SuccessTyping(8, 16);
        CHECK.due("analyze()", s.analyze(), 0);
        CHECK.due("analyzed()", s.analyzed(), true);
        for (int f = 0; f < 8; f++) {
            CHECK.empty(s, f, 0);
            CHECK.empty(s, f, 1);
            CHECK.empty(s, f, 2);
        }
    }

    private static void countsNeverReturning() {
        SuccessTyping s = new SuccessTyping(8, 64);
        Bodies.define(CHECK, s, 0, 0, "i1 a1 +");
        CHECK.due("analyze()", s.analyze(), 1);
        Bodies.define(CHECK, s, 7, 1, "v0 c7/1");
        CHECK.due("analyze()", s.analyze(), 2);
        Bodies.define(CHECK, s, 3, 2, "v0 v1 <");
        CHECK.due("analyze()", s.analyze(), 2);
        Bodies.define(CHECK, s, 4, 0, "c0/0");
        CHECK.due("analyze()", s.analyze(), 3);
        CHECK.due("analyze() again", s.analyze(), 3);
        CHECK.empty(s, 7, 0);
        CHECK.empty(s, 7, 2);
    }

    private static void buildingCountsAsUndefined() {
        SuccessTyping s = new SuccessTyping(2, 16);
        Bodies.define(CHECK, s, 0, 0, "c1/0");
        s.begin(1, 0);
        Bodies.nodes(CHECK, s, "i4");
        CHECK.due("analyze()", s.analyze(), 1);
        CHECK.empty(s, 0, 2);
        CHECK.empty(s, 1, 2);
        CHECK.due("building()", s.building(), 1);
        CHECK.due("end()", s.end(), 1);
        CHECK.empty(s, 1, 2);
        CHECK.due("analyze()", s.analyze(), 0);
        CHECK.range(s, 0, 2, 4, 4);
        CHECK.range(s, 1, 2, 4, 4);
    }

    private static void analyzedTurnsFalseAtEndOnly() {
        SuccessTyping s = new SuccessTyping(2, 16);
        CHECK.due("analyzed() at the start", s.analyzed(), false);
        Bodies.define(CHECK, s, 0, 1, "v0");
        CHECK.due("analyzed() before analyze()", s.analyzed(), false);
        s.analyze();
        CHECK.due("analyzed() after analyze()", s.analyzed(), true);
        s.begin(9, 0);
        s.begin(1, 0);
        s.begin(1, 0);
        s.node(SuccessTyping.KIND_INT, 100, 0);
        s.node(SuccessTyping.KIND_INT, 1, 0);
        s.node(SuccessTyping.KIND_INT, 1, 0);
        s.run(0, 5, 0);
        s.run(0, 500, 0);
        CHECK.due("analyzed() while building", s.analyzed(), true);
        CHECK.due("end()", s.end(), SuccessTyping.END_DISCARDED);
        CHECK.due("analyzed() after a discarded body", s.analyzed(), true);
        CHECK.due("end()", s.end(), SuccessTyping.END_NOT_BUILDING);
        CHECK.due("analyzed() after an idle end()", s.analyzed(), true);
        Bodies.define(CHECK, s, 1, 0, "i1");
        CHECK.due("analyzed() after a new body", s.analyzed(), false);
        s.run(1, 0, 0);
        CHECK.due("analyzed() after a run", s.analyzed(), false);
        s.analyze();
        CHECK.due("analyzed() after analyze()", s.analyzed(), true);
    }

    private static void changesNothingElse() {
        SuccessTyping s = new SuccessTyping(3, 16);
        Bodies.define(CHECK, s, 0, 1, "v0 i1 +");
        s.run(0, 6, 0);
        s.begin(1, 2);
        Bodies.nodes(CHECK, s, "v0 v1");
        s.analyze();
        String before = Snapshot.of(s);
        s.analyze();
        CHECK.due("the object after analyze()", Snapshot.of(s), before);
        CHECK.due("result()", s.result(), 7);
        CHECK.due("pending()", s.pending(), 2);
        CHECK.due("bodySize(1)", s.bodySize(1), 2);
        Bodies.nodes(CHECK, s, "=");
        CHECK.due("end()", s.end(), 1);
        CHECK.run(s, 1, 1003, 1003, SuccessTyping.RUN_OK, 1001);
    }

    private static void replacesOldSummaries() {
        SuccessTyping s = new SuccessTyping(3, 32);
        Bodies.define(CHECK, s, 0, 1, "v0 int? i1 v0 c1/1 if");
        s.analyze();
        CHECK.ints(s, 0, 0);
        CHECK.range(s, 0, 2, 1, 1);
        Bodies.define(CHECK, s, 1, 1, "v0 a2 a3 if");
        CHECK.ints(s, 0, 0);
        s.analyze();
        CHECK.type(s, 0, 0, 3, -99, 99);
        CHECK.type(s, 0, 2, 12, 1, 1);
    }

    private static void typesCoverEveryRun() {
        SuccessTyping s = new SuccessTyping(4, 128);
        Bodies.define(CHECK, s, 0, 1, "v0 int? v0 i1 < i0 v0 v0 i1 - c0/1 + if v0 a3 a4 if if");
        Bodies.define(CHECK, s, 1, 2, "v0 v1 < v0 v1 - v1 c0/1 if");
        Bodies.define(CHECK, s, 2, 2, "v0 v1 c3/1 v1 if");
        Bodies.define(CHECK, s, 3, 1, "v0 i5 +");
        s.analyze();
        int[] codes = new int[207];
        for (int i = 0; i < codes.length; i++) {
            codes[i] = i < 199 ? i - 99 : 1000 + i - 199;
        }
        for (int f = 0; f < 4; f++) {
            for (int x : codes) {
                for (int y : codes) {
                    covered(s, f, x, y);
                }
            }
        }
    }

    private static void covered(SuccessTyping s, int f, int x, int y) {
        if (s.run(f, x, y) != SuccessTyping.RUN_OK) {
            return;
        }
        boolean first = s.member(f, 0, x);
        boolean second = s.arity(f) < 2 || s.member(f, 1, y);
        boolean gives = s.member(f, 2, s.result());
        CHECK.due("cover of run(" + f + ", " + x + ", " + y + ")", first && second && gives, true);
    }
}
