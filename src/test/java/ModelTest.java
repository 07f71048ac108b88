/**
 * All promises: long runs of calls made by a fixed rule, right and wrong ones, each answer compared
 * with the one of Model, and every successful run with the inferred types.
 */
public final class ModelTest {
    private static final Check CHECK = new Check();
    private static final int ROUNDS = 6000;
    private static final int[] ODD = {Integer.MIN_VALUE, -1000, -100, -99, -9, -2, -1, 0, 1, 2, 3, 7,
        8, 9, 10, 99, 100, 127, 128, 999, 1000, 1001, 1007, 1008, Integer.MAX_VALUE};

    private static long state = 20250101L;
    private static final int[] OUTCOMES = new int[4];
    private static int flagged;

    public static void main(String[] args) {
        for (int round = 0; round < ROUNDS && CHECK.wrongSoFar() == 0; round++) {
            compare(round);
            if (CHECK.wrongSoFar() != 0) {
                System.out.println("in round " + round);
            }
        }
        // A comparison in which hardly anything succeeds would prove little.
        CHECK.due("enough runs that succeed", OUTCOMES[0] > ROUNDS, true);
        CHECK.due("enough runs that fail", OUTCOMES[1] > ROUNDS, true);
        CHECK.due("enough runs that come to a limit", OUTCOMES[2] > ROUNDS / 10, true);
        CHECK.due("enough flagged slots", flagged > ROUNDS / 10, true);
        CHECK.finish();
    }

    private static int pick(int count) {
        state = state * 6364136223846793005L + 1442695040888963407L;
        return (int) ((state >>> 33) % count);
    }

    private static int odd() {
        return ODD[pick(ODD.length)];
    }

    private static int code() {
        int way = pick(4);
        if (way == 0) {
            return 1000 + pick(8);
        }
        return way == 1 ? pick(199) - 99 : way == 2 ? pick(19) - 9 : 1000 + pick(2);
    }

    private static void compare(int round) {
        int functions = pick(10) == 0 ? odd() : 1 + pick(8);
        int capacity = pick(10) == 0 ? odd() : 16 + pick(113);
        SuccessTyping s = new SuccessTyping(functions, capacity);
        Model m = new Model(functions, capacity);
        int slots = Math.max(1, Math.min(8, functions));
        for (int turn = 0; turn < 2 * slots; turn++) {
            buildOne(s, m, slots);
            if (pick(3) == 0) {
                int count = s.analyze();
                CHECK.due("analyze()", count, m.analyze());
                flagged += count;
                summaries(s, m);
            }
            for (int i = 0; i < 6; i++) {
                runOne(s, m, pick(8) == 0 ? odd() : pick(slots));
            }
        }
        int count = s.analyze();
        CHECK.due("analyze()", count, m.analyze());
        flagged += count;
        summaries(s, m);
        bodies(s, m);
        for (int i = 0; i < 40; i++) {
            runOne(s, m, pick(slots));
        }
        oddQuestions(s, m);
    }

    private static void buildOne(SuccessTyping s, Model m, int slots) {
        int f = pick(8) == 0 ? odd() : pick(slots);
        int arity = pick(8) == 0 ? odd() : pick(3);
        CHECK.due("begin(" + f + ", " + arity + ")", s.begin(f, arity), m.begin(f, arity));
        if (pick(20) == 0) {
            for (int i = 0; i < 30; i++) {
                node(s, m, pick(10), pick(12) - 4, pick(4) - 1);
            }
        } else {
            tree(s, m, slots, 1 + pick(6), 0);
        }
        if (pick(10) == 0) {
            node(s, m, odd(), odd(), odd());
        }
        CHECK.due("building()", s.building(), m.building());
        if (pick(12) != 0) {
            CHECK.due("end()", s.end(), m.end());
        }
        CHECK.due("analyzed()", s.analyzed(), m.analyzed());
        CHECK.due("pending()", s.pending(), m.pending());
    }

    private static void node(SuccessTyping s, Model m, int kind, int a, int b) {
        String call = "node(" + kind + ", " + a + ", " + b + ")";
        CHECK.due(call, s.node(kind, a, b), m.node(kind, a, b));
        CHECK.due("pending() after " + call, s.pending(), m.pending());
    }

    /** Want says what would make sense there: 0 anything, 1 an integer, 2 a truth value. */
    private static void tree(SuccessTyping s, Model m, int slots, int depth, int want) {
        int kind = kindFor(depth, pick(6) == 0 ? 0 : want);
        int a = 0;
        int b = 0;
        if (kind == SuccessTyping.KIND_INT) {
            a = pick(3) == 0 ? pick(199) - 99 : pick(21) - 10;
        } else if (kind == SuccessTyping.KIND_ATOM) {
            a = want == 2 ? pick(2) : pick(8);
        } else if (kind == SuccessTyping.KIND_VAR) {
            int arity = m.arity(m.building());
            a = arity > 0 ? pick(arity) : 0;
            kind = arity > 0 ? kind : SuccessTyping.KIND_INT;
        } else if (kind == SuccessTyping.KIND_CALL) {
            a = pick(slots);
            b = pick(6) == 0 || m.arity(a) < 0 ? pick(3) : m.arity(a);
        }
        int[] counts = {0, 0, 0, 2, 2, 2, 2, 1, 3, b};
        for (int i = 0; i < counts[kind]; i++) {
            int wanted = kind <= SuccessTyping.KIND_LESS ? 1 : 0;
            if (kind == SuccessTyping.KIND_IF) {
                wanted = i == 0 ? 2 : want;
            }
            tree(s, m, slots, depth - 1, wanted);
        }
        node(s, m, kind, a, b);
    }

    private static int kindFor(int depth, int want) {
        if (depth <= 1) {
            int[] anything = {0, 1, 2, 2};
            int[] numbers = {0, 2, 2, 2};
            int[] truths = {1, 2, 2, 2};
            int[][] choice = {anything, numbers, truths};
            return choice[want][pick(4)];
        }
        int[] anything = {0, 1, 2, 3, 4, 5, 6, 7, 8, 8, 8, 9, 9};
        int[] numbers = {0, 2, 3, 3, 4, 4, 8, 8, 9, 9, 2, 3, 4};
        int[] truths = {1, 2, 2, 5, 5, 5, 6, 6, 7, 7, 7, 8, 9};
        int[][] choice = {anything, numbers, truths};
        return choice[want][pick(13)];
    }

    private static void runOne(SuccessTyping s, Model m, int f) {
        int x = pick(12) == 0 ? odd() : code();
        int y = pick(12) == 0 ? odd() : code();
        String call = "run(" + f + ", " + x + ", " + y + ")";
        int outcome = s.run(f, x, y);
        OUTCOMES[outcome]++;
        CHECK.due(call, outcome, m.run(f, x, y));
        CHECK.due("result() after " + call, s.result(), m.result());
        if (s.analyzed() && outcome == SuccessTyping.RUN_OK) {
            boolean first = s.arity(f) < 1 || s.member(f, 0, x);
            boolean second = s.arity(f) < 2 || s.member(f, 1, y);
            boolean gives = s.member(f, 2, s.result());
            CHECK.due("cover of " + call, first && second && gives, true);
        }
    }

    private static void summaries(SuccessTyping s, Model m) {
        for (int f = 0; f < 8; f++) {
            for (int which = 0; which < 3; which++) {
                String at = "(" + f + ", " + which + ")";
                CHECK.due("atoms" + at, s.atoms(f, which), m.atoms(f, which));
                CHECK.due("intLo" + at, s.intLo(f, which), m.intLo(f, which));
                CHECK.due("intHi" + at, s.intHi(f, which), m.intHi(f, which));
            }
        }
    }

    private static void bodies(SuccessTyping s, Model m) {
        for (int f = -1; f <= 8; f++) {
            CHECK.due("bodySize(" + f + ")", s.bodySize(f), m.bodySize(f));
            CHECK.due("arity(" + f + ")", s.arity(f), m.arity(f));
            for (int i = -1; i <= m.bodySize(f) + 1; i++) {
                CHECK.due("nodeAt(" + f + ", " + i + ")", s.nodeAt(f, i), m.nodeAt(f, i));
            }
        }
    }

    private static void oddQuestions(SuccessTyping s, Model m) {
        for (int i = 0; i < 20; i++) {
            int f = odd();
            int which = odd();
            int v = odd();
            CHECK.due("atoms", s.atoms(f, which), m.atoms(f, which));
            CHECK.due("intLo", s.intLo(f, which), m.intLo(f, which));
            CHECK.due("intHi", s.intHi(f, which), m.intHi(f, which));
            CHECK.due("member", s.member(f, which, v), m.member(f, which, v));
            CHECK.due("nodeAt", s.nodeAt(f, which), m.nodeAt(f, which));
            CHECK.due("bodySize", s.bodySize(f), m.bodySize(f));
            CHECK.due("arity", s.arity(f), m.arity(f));
        }
    }
}
