/** Asks what is inferred for one body alone in slot 0. */
final class Infer {
    private final Check check;

    Infer(Check check) {
        this.check = check;
    }

    /** The result type of the body; the parameters' types are asked for elsewhere. */
    void gives(int arity, String body, int mask, int lo, int hi) {
        int wrong = check.wrongSoFar();
        SuccessTyping s = Bodies.inferred(check, arity, body);
        check.type(s, 0, SuccessTyping.WHICH_RESULT, mask, lo, hi);
        name(body, wrong);
    }

    void givesMask(int arity, String body, int mask) {
        gives(arity, body, mask, SuccessTyping.NO_INT, SuccessTyping.NO_INT);
    }

    void givesRange(int arity, String body, int lo, int hi) {
        gives(arity, body, 0, lo, hi);
    }

    /** The body is BOT, so that the parameters' types are EMPTY too and the slot is flagged. */
    void givesNothing(int arity, String body) {
        int wrong = check.wrongSoFar();
        SuccessTyping s = Bodies.inferred(check, arity, body);
        check.allEmpty(s, 0);
        check.due("analyze()", s.analyze(), 1);
        name(body, wrong);
    }

    /** The type of the one parameter. */
    void takes(String body, int mask, int lo, int hi) {
        int wrong = check.wrongSoFar();
        SuccessTyping s = Bodies.inferred(check, 1, body);
        check.type(s, 0, SuccessTyping.WHICH_P0, mask, lo, hi);
        name(body, wrong);
    }

    void takesAny(String body) {
        takes(body, 255, -99, 99);
    }

    void takesInts(String body) {
        takes(body, 0, -99, 99);
    }

    void takesMask(String body, int mask) {
        takes(body, mask, SuccessTyping.NO_INT, SuccessTyping.NO_INT);
    }

    private void name(String body, int wrongBefore) {
        if (check.wrongSoFar() != wrongBefore) {
            System.out.println("  that was '" + body + "'");
        }
    }
}
