/** All that an object shows without being changed, as one text to compare. */
final class Snapshot {
    private static final int[] CODES = {-100, -99, -9, -8, -1, 0, 1, 8, 9, 99, 100, 999,
        1000, 1001, 1002, 1003, 1004, 1005, 1006, 1007, 1008};

    private Snapshot() {
    }

    static String of(SuccessTyping s) {
        return "building " + s.building() + " pending " + s.pending() + " analyzed " + s.analyzed()
            + " result " + s.result() + slots(s, -1, 0, 1, 2, 3, 4, 5, 6, 7, 8);
    }

    static String slots(SuccessTyping s, int... asked) {
        StringBuilder text = new StringBuilder();
        for (int f : asked) {
            text.append("\n  ").append(f).append(": arity ").append(s.arity(f));
            text.append(" size ").append(s.bodySize(f)).append(" body");
            for (int i = -1; i <= s.bodySize(f); i++) {
                text.append(' ').append(s.nodeAt(f, i));
            }
            text.append(summary(s, f));
        }
        return text.toString();
    }

    private static String summary(SuccessTyping s, int f) {
        StringBuilder text = new StringBuilder();
        for (int which = -1; which <= 3; which++) {
            text.append(" | ").append(s.atoms(f, which));
            text.append(' ').append(s.intLo(f, which));
            text.append(' ').append(s.intHi(f, which)).append(' ');
            for (int code : CODES) {
                text.append(s.member(f, which, code) ? '1' : '0');
            }
        }
        return text.toString();
    }
}
