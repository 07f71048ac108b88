/** All that an object shows without being changed, as one text to compare. */
final class Snapshot {
    private static final int[] CODES = {-99, -9, -8, -1, 0, 1, 8, 9, 99,
        1000, 1001, 1002, 1003, 1004, 1005, 1006, 1007};

    private Snapshot() {
    }

    static String of(SuccessTyping s) {
        StringBuilder text = new StringBuilder();
        text.append("building ").append(s.building()).append(" pending ").append(s.pending());
        text.append(" analyzed ").append(s.analyzed()).append(" result ").append(s.result());
        for (int f = -1; f <= 8; f++) {
            text.append("\n  ").append(f).append(": arity ").append(s.arity(f));
            text.append(" body");
            for (int i = -1; i <= s.bodySize(f); i++) {
                text.append(' ').append(s.nodeAt(f, i));
            }
            for (int which = -1; which <= 3; which++) {
                text.append(" | ").append(s.atoms(f, which));
                text.append(' ').append(s.intLo(f, which));
                text.append(' ').append(s.intHi(f, which)).append(' ');
                for (int code : CODES) {
                    text.append(s.member(f, which, code) ? '1' : '0');
                }
            }
        }
        return text.toString();
    }
}
