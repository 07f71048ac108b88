import java.util.function.Consumer;
import java.util.function.Supplier;

/** Asks that a call leave no trace on an object: neither in what it shows nor in what comes of it. */
final class Trace {
    private static final int[] CODES = {-99, -1, 0, 5, 99, 1000, 1001, 1007};

    private Trace() {
    }

    /** The supplier makes the object anew each time, so that one can be kept from the call. */
    static void none(Check check, String call, Supplier<SuccessTyping> made,
            Consumer<SuccessTyping> asked) {
        SuccessTyping called = made.get();
        SuccessTyping spared = made.get();
        asked.accept(called);
        check.due("the object after " + call, Snapshot.of(called), Snapshot.of(spared));
        check.due("what comes after " + call, future(called), future(spared));
    }

    /** Ends what is being built, infers, runs all there is, and then counts the room left. */
    static String future(SuccessTyping s) {
        StringBuilder text = new StringBuilder();
        int building = s.building();
        text.append("nodes that end the body ").append(joinPending(s));
        text.append(" end ").append(s.end()).append(" of ").append(building);
        text.append(" flagged ").append(s.analyze()).append('\n').append(Snapshot.of(s));
        for (int f = 0; f < 8; f++) {
            text.append("\n  runs of ").append(f);
            for (int x : CODES) {
                for (int y : CODES) {
                    text.append(' ').append(s.run(f, x, y)).append(':').append(s.result());
                }
            }
        }
        text.append("\n  begun");
        for (int f = 0; f < 8; f++) {
            text.append(' ').append(s.begin(f, 2)).append(' ').append(Bodies.fill(s));
            text.append(' ').append(s.end());
        }
        return text.append('\n').append(Snapshot.of(s)).toString();
    }

    private static int joinPending(SuccessTyping s) {
        int count = 0;
        while (s.pending() > 1 && s.node(SuccessTyping.KIND_EQ, 0, 0)) {
            count++;
        }
        return count;
    }
}
