/**
 * Writes bodies in a short postfix notation: i5 and i-3 are integers, a2 an atom, v0 a parameter,
 * + - < = are the kinds of two children, int? and if those of one and three, and c4/1 calls slot 4
 * with one child.
 */
final class Bodies {
    private Bodies() {
    }

    static boolean node(SuccessTyping s, String word) {
        switch (word) {
            case "+":
                return s.node(SuccessTyping.KIND_ADD, 0, 0);
            case "-":
                return s.node(SuccessTyping.KIND_SUB, 0, 0);
            case "<":
                return s.node(SuccessTyping.KIND_LESS, 0, 0);
            case "=":
                return s.node(SuccessTyping.KIND_EQ, 0, 0);
            case "int?":
                return s.node(SuccessTyping.KIND_ISINT, 0, 0);
            case "if":
                return s.node(SuccessTyping.KIND_IF, 0, 0);
            default:
                return withOperands(s, word);
        }
    }

    private static boolean withOperands(SuccessTyping s, String word) {
        String rest = word.substring(1);
        switch (word.charAt(0)) {
            case 'i':
                return s.node(SuccessTyping.KIND_INT, Integer.parseInt(rest), 0);
            case 'a':
                return s.node(SuccessTyping.KIND_ATOM, Integer.parseInt(rest), 0);
            case 'v':
                return s.node(SuccessTyping.KIND_VAR, Integer.parseInt(rest), 0);
            case 'c':
                String[] parts = rest.split("/");
                int slot = Integer.parseInt(parts[0]);
                int count = Integer.parseInt(parts[1]);
                return s.node(SuccessTyping.KIND_CALL, slot, count);
            default:
                throw new IllegalArgumentException(word);
        }
    }

    static void nodes(Check check, SuccessTyping s, String body) {
        for (String word : body.split(" ")) {
            check.due("node " + word + " of '" + body + "'", node(s, word), true);
        }
    }

    static void define(Check check, SuccessTyping s, int f, int arity, String body) {
        check.due("begin(" + f + ", " + arity + ")", s.begin(f, arity), true);
        nodes(check, s, body);
        check.due("end() of '" + body + "'", s.end(), f);
    }

    /** A body of the depth that is asked for, in which every node has one child at most. */
    static String chain(int depth) {
        return "i1" + " int?".repeat(depth - 1);
    }

    /** Stores as many nodes without children as the pool takes, and answers how many. */
    static int fill(SuccessTyping s) {
        int count = 0;
        while (count < 1000 && s.node(SuccessTyping.KIND_INT, 1, 0)) {
            count++;
        }
        return count;
    }

    /** A new object of eight slots and the largest pool, with one body in slot 0, analyzed. */
    static SuccessTyping inferred(Check check, int arity, String body) {
        SuccessTyping s = new SuccessTyping(8, 128);
        define(check, s, 0, arity, body);
        s.analyze();
        return s;
    }
}
