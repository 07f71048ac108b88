/** Counts the answers that are not as due, and ends a test with exit code 1 if there was one. */
final class Check {
    private int sentences;
    private int asked;
    private int wrong;

    /** Runs the test of one sentence of the document, whose words are told if an answer is wrong. */
    void sentence(String words, Runnable test) {
        sentences++;
        int askedBefore = asked;
        int wrongBefore = wrong;
        try {
            test.run();
        } catch (RuntimeException thrown) {
            wrong++;
            System.out.println("a call threw " + thrown + " at " + thrown.getStackTrace()[0]);
        }
        if (asked == askedBefore) {
            wrong++;
            System.out.println("nothing was asked");
        }
        if (wrong != wrongBefore) {
            System.out.println("  -- under: " + words);
        }
    }

    void due(String call, long got, long want) {
        asked++;
        if (got != want) {
            wrong++;
            System.out.println(call + " answered " + got + ", due is " + want);
        }
    }

    void due(String call, boolean got, boolean want) {
        asked++;
        if (got != want) {
            wrong++;
            System.out.println(call + " answered " + got + ", due is " + want);
        }
    }

    void due(String what, String got, String want) {
        asked++;
        if (!got.equals(want)) {
            wrong++;
            System.out.println(what + " is\n  " + got + "\ndue is\n  " + want);
        }
    }

    void type(SuccessTyping s, int f, int which, int mask, int lo, int hi) {
        String at = "(" + f + ", " + which + ")";
        due("atoms" + at, s.atoms(f, which), mask);
        due("intLo" + at, s.intLo(f, which), lo);
        due("intHi" + at, s.intHi(f, which), hi);
    }

    void empty(SuccessTyping s, int f, int which) {
        type(s, f, which, 0, SuccessTyping.NO_INT, SuccessTyping.NO_INT);
    }

    void allEmpty(SuccessTyping s, int f) {
        empty(s, f, SuccessTyping.WHICH_P0);
        empty(s, f, SuccessTyping.WHICH_P1);
        empty(s, f, SuccessTyping.WHICH_RESULT);
    }

    void any(SuccessTyping s, int f, int which) {
        type(s, f, which, 255, -99, 99);
    }

    void ints(SuccessTyping s, int f, int which) {
        type(s, f, which, 0, -99, 99);
    }

    void mask(SuccessTyping s, int f, int which, int mask) {
        type(s, f, which, mask, SuccessTyping.NO_INT, SuccessTyping.NO_INT);
    }

    void range(SuccessTyping s, int f, int which, int lo, int hi) {
        type(s, f, which, 0, lo, hi);
    }

    void run(SuccessTyping s, int f, int x, int y, int outcome, int result) {
        String call = "run(" + f + ", " + x + ", " + y + ")";
        due(call, s.run(f, x, y), outcome);
        due("result() after " + call, s.result(), result);
    }

    int wrongSoFar() {
        return wrong;
    }

    void finish() {
        String under = sentences == 0 ? "" : " under " + sentences + " sentences";
        System.out.println(asked + " answers" + under + ", " + wrong + " not as due");
        if (wrong != 0 || asked == 0) {
            System.exit(1);
        }
    }
}
