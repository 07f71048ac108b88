import java.util.ArrayDeque;
import java.util.ArrayList;
import java.util.Arrays;
import java.util.Deque;
import java.util.List;

/**
 * The document said once more in plain Java with trees and recursion, for the comparison in
 * ModelTest. It shares nothing with the program but the constants.
 */
final class Model {
    record Ints(int lo, int hi) {
    }

    /** A null for ints stands for NONE. */
    record Type(int mask, Ints ints) {
        boolean isEmpty() {
            return mask == 0 && ints == null;
        }
    }

    record Node(int kind, int a, int b, List<Node> children) {
        int depth() {
            int deepest = 0;
            for (Node child : children) {
                deepest = Math.max(deepest, child.depth());
            }
            return deepest + 1;
        }

        boolean isVar() {
            return kind == SuccessTyping.KIND_VAR;
        }
    }

    /** A null outcome stands for BOT. */
    record Outcome(Type type, List<Type> env) {
    }

    private static final class Slot {
        int arity;
        boolean defined;
        List<Node> body = new ArrayList<>();
        Deque<Node> pending = new ArrayDeque<>();
    }

    private static final class Stop extends RuntimeException {
        private static final long serialVersionUID = 1L;
        final int outcome;

        Stop(int outcome) {
            super(null, null, false, false);
            this.outcome = outcome;
        }
    }

    static final Type EMPTY = new Type(0, null);
    static final Type ANY = new Type(255, new Ints(-99, 99));
    static final Type INTS = new Type(0, new Ints(-99, 99));
    static final Type ATOMS = new Type(255, null);
    static final Type BOOL = new Type(3, null);

    private final int capacity;
    private final Slot[] slots;
    private Type[][] summaries;
    private Type[][] under;
    private int building = -1;
    private boolean analyzed;
    private int result;
    private int made;
    private int active;

    Model(int functions, int capacity) {
        this.slots = new Slot[Math.max(1, Math.min(8, functions))];
        this.capacity = Math.max(16, Math.min(128, capacity));
        this.summaries = emptyTable();
    }

    private Type[][] emptyTable() {
        Type[][] table = new Type[slots.length][3];
        for (Type[] row : table) {
            Arrays.fill(row, EMPTY);
        }
        return table;
    }

    private boolean inside(int f) {
        return 0 <= f && f < slots.length;
    }

    private boolean defined(int f) {
        return inside(f) && slots[f] != null && slots[f].defined;
    }

    boolean begin(int f, int arity) {
        if (building >= 0 || !inside(f) || slots[f] != null || arity < 0 || arity > 2) {
            return false;
        }
        slots[f] = new Slot();
        slots[f].arity = arity;
        building = f;
        return true;
    }

    private static int childCount(int kind, int b) {
        int[] counts = {0, 0, 0, 2, 2, 2, 2, 1, 3, b};
        return counts[kind];
    }

    boolean node(int kind, int a, int b) {
        if (building < 0 || kind < 0 || kind > 9) {
            return false;
        }
        Slot slot = slots[building];
        boolean fits = switch (kind) {
            case 0 -> -99 <= a && a <= 99;
            case 1 -> 0 <= a && a <= 7;
            case 2 -> 0 <= a && a < slot.arity;
            case 9 -> inside(a) && 0 <= b && b <= 2;
            default -> true;
        };
        if (!fits || slot.pending.size() < childCount(kind, b)) {
            return false;
        }
        int held = 0;
        for (Slot other : slots) {
            held += other == null ? 0 : other.body.size();
        }
        if (held >= capacity) {
            return false;
        }
        Deque<Node> pending = new ArrayDeque<>(slot.pending);
        List<Node> children = new ArrayList<>();
        for (int i = 0; i < childCount(kind, b); i++) {
            children.add(0, pending.removeLast());
        }
        boolean plain = kind >= 3 && kind <= 8;
        Node made = new Node(kind, plain ? 0 : a, kind == 9 ? b : 0, children);
        if (made.depth() > 10) {
            return false;
        }
        pending.addLast(made);
        slot.pending = pending;
        slot.body.add(made);
        return true;
    }

    int end() {
        if (building < 0) {
            return -1;
        }
        int f = building;
        building = -1;
        if (slots[f].pending.size() != 1) {
            slots[f] = null;
            return -2;
        }
        slots[f].defined = true;
        analyzed = false;
        return f;
    }

    static Type join(Type s, Type t) {
        Ints ints = s.ints == null ? t.ints : s.ints;
        if (s.ints != null && t.ints != null) {
            ints = new Ints(Math.min(s.ints.lo, t.ints.lo), Math.max(s.ints.hi, t.ints.hi));
        }
        return new Type(s.mask | t.mask, ints);
    }

    static Type meet(Type s, Type t) {
        Ints ints = null;
        if (s.ints != null && t.ints != null) {
            int lo = Math.max(s.ints.lo, t.ints.lo);
            int hi = Math.min(s.ints.hi, t.ints.hi);
            ints = lo > hi ? null : new Ints(lo, hi);
        }
        return new Type(s.mask & t.mask, ints);
    }

    static Ints range(int l, int h) {
        int l2 = Math.max(l, -99);
        int h2 = Math.min(h, 99);
        if (l2 > h2) {
            return null;
        }
        int low = l2 < -8 ? -99 : l2 > 8 ? 8 : l2;
        int high = h2 > 8 ? 99 : h2 < -8 ? -8 : h2;
        return new Ints(low, high);
    }

    private static Outcome outcome(Type type, List<Type> env) {
        boolean bottom = type.isEmpty();
        for (Type entry : env) {
            bottom |= entry.isEmpty();
        }
        return bottom ? null : new Outcome(type, env);
    }

    private static List<Type> narrowed(List<Type> env, Node x, Type type) {
        List<Type> copy = new ArrayList<>(env);
        if (x.isVar()) {
            copy.set(x.a, meet(copy.get(x.a), type));
        }
        return copy;
    }

    private Outcome infer(Node e, List<Type> env) {
        List<Node> c = e.children;
        switch (e.kind) {
            case SuccessTyping.KIND_INT:
                return outcome(new Type(0, range(e.a, e.a)), env);
            case SuccessTyping.KIND_ATOM:
                return outcome(new Type(1 << e.a, null), env);
            case SuccessTyping.KIND_VAR:
                return outcome(env.get(e.a), env);
            case SuccessTyping.KIND_ISINT:
                Outcome asked = infer(c.get(0), env);
                return asked == null ? null : inferIsInt(asked);
            case SuccessTyping.KIND_IF:
                return inferIf(e, env);
            case SuccessTyping.KIND_CALL:
                return inferCall(e, env);
            default:
                Outcome x = infer(c.get(0), env);
                Outcome y = x == null ? null : infer(c.get(1), x.env);
                return y == null ? null : inferPair(e, x.type, y.type, y.env);
        }
    }

    private static Outcome inferIsInt(Outcome asked) {
        int no = asked.type.mask != 0 ? 1 : 0;
        int yes = asked.type.ints != null ? 2 : 0;
        return outcome(new Type(no + yes, null), asked.env);
    }

    private static Outcome inferPair(Node e, Type rx, Type ry, List<Type> after) {
        if (e.kind == SuccessTyping.KIND_EQ) {
            return outcome(new Type(meet(rx, ry).isEmpty() ? 1 : 3, null), after);
        }
        if (rx.ints == null || ry.ints == null) {
            return null;
        }
        List<Type> env = narrowed(after, e.children.get(0), INTS);
        env = narrowed(env, e.children.get(1), INTS);
        int lx = rx.ints.lo;
        int hx = rx.ints.hi;
        int ly = ry.ints.lo;
        int hy = ry.ints.hi;
        if (e.kind == SuccessTyping.KIND_LESS) {
            return outcome(new Type((lx < hy ? 2 : 0) + (hx >= ly ? 1 : 0), null), env);
        }
        boolean add = e.kind == SuccessTyping.KIND_ADD;
        Ints ints = add ? range(lx + ly, hx + hy) : range(lx - hy, hx - ly);
        return outcome(new Type(0, ints), env);
    }

    private static boolean hasEmpty(List<Type> env) {
        for (Type entry : env) {
            if (entry.isEmpty()) {
                return true;
            }
        }
        return false;
    }

    private Outcome inferIf(Node e, List<Type> env) {
        Node x = e.children.get(0);
        Outcome asked = infer(x, env);
        if (asked == null) {
            return null;
        }
        List<Type> yes = narrowed(asked.env, x, BOOL);
        List<Type> no = yes;
        if (x.kind == SuccessTyping.KIND_ISINT) {
            yes = narrowed(yes, x.children.get(0), INTS);
            no = narrowed(no, x.children.get(0), ATOMS);
        }
        boolean mayYes = (asked.type.mask & 2) != 0 && !hasEmpty(yes);
        boolean mayNo = (asked.type.mask & 1) != 0 && !hasEmpty(no);
        Outcome one = mayYes ? infer(e.children.get(1), yes) : null;
        Outcome two = mayNo ? infer(e.children.get(2), no) : null;
        if (one == null || two == null) {
            return one == null ? two : one;
        }
        List<Type> both = new ArrayList<>();
        for (int j = 0; j < env.size(); j++) {
            both.add(join(one.env.get(j), two.env.get(j)));
        }
        return outcome(join(one.type, two.type), both);
    }

    private Outcome inferCall(Node e, List<Type> env) {
        List<Type> now = env;
        List<Type> given = new ArrayList<>();
        for (Node child : e.children) {
            Outcome one = infer(child, now);
            if (one == null) {
                return null;
            }
            given.add(one.type);
            now = one.env;
        }
        if (!defined(e.a) || slots[e.a].arity != e.b) {
            return null;
        }
        for (int i = 0; i < e.b; i++) {
            if (meet(given.get(i), under[e.a][i]).isEmpty()) {
                return null;
            }
            now = narrowed(now, e.children.get(i), under[e.a][i]);
        }
        return outcome(under[e.a][2], now);
    }

    private Type[][] step(Type[][] table) {
        under = table;
        Type[][] next = emptyTable();
        for (int f = 0; f < slots.length; f++) {
            if (!defined(f)) {
                continue;
            }
            List<Type> env = new ArrayList<>();
            for (int j = 0; j < slots[f].arity; j++) {
                env.add(ANY);
            }
            Outcome found = infer(slots[f].pending.getLast(), env);
            if (found != null) {
                for (int j = 0; j < slots[f].arity; j++) {
                    next[f][j] = found.env.get(j);
                }
                next[f][2] = found.type;
            }
        }
        return next;
    }

    int analyze() {
        Type[][] table = emptyTable();
        Type[][] next = step(table);
        while (!Arrays.deepEquals(table, next)) {
            table = next;
            next = step(table);
        }
        summaries = table;
        analyzed = true;
        int flagged = 0;
        for (int f = 0; f < slots.length; f++) {
            flagged += defined(f) && table[f][2].isEmpty() ? 1 : 0;
        }
        return flagged;
    }

    boolean analyzed() {
        return analyzed;
    }

    private boolean asks(int f, int which) {
        return inside(f) && 0 <= which && which <= 2;
    }

    int atoms(int f, int which) {
        return asks(f, which) ? summaries[f][which].mask : -1;
    }

    int intLo(int f, int which) {
        if (!asks(f, which)) {
            return -1000;
        }
        Ints ints = summaries[f][which].ints;
        return ints == null ? 1000 : ints.lo;
    }

    int intHi(int f, int which) {
        if (!asks(f, which)) {
            return -1000;
        }
        Ints ints = summaries[f][which].ints;
        return ints == null ? 1000 : ints.hi;
    }

    boolean member(int f, int which, int v) {
        if (!asks(f, which) || !isCode(v)) {
            return false;
        }
        Type type = summaries[f][which];
        if (v >= 1000) {
            return (type.mask >> (v - 1000)) % 2 == 1;
        }
        return type.ints != null && type.ints.lo <= v && v <= type.ints.hi;
    }

    static boolean isCode(int v) {
        return -99 <= v && v <= 99 || 1000 <= v && v <= 1007;
    }

    int run(int f, int x, int y) {
        if (!defined(f)) {
            return 3;
        }
        int arity = slots[f].arity;
        if (arity >= 1 && !isCode(x) || arity == 2 && !isCode(y)) {
            return 3;
        }
        made = 0;
        active = 0;
        try {
            result = call(f, new int[] {x, y});
            return 0;
        } catch (Stop stop) {
            result = 0;
            return stop.outcome;
        }
    }

    private int call(int g, int[] values) {
        made++;
        active++;
        int value = evaluate(slots[g].pending.getLast(), values);
        active--;
        return value;
    }

    private int evaluate(Node e, int[] values) {
        List<Node> c = e.children;
        switch (e.kind) {
            case SuccessTyping.KIND_INT:
                return e.a;
            case SuccessTyping.KIND_ATOM:
                return 1000 + e.a;
            case SuccessTyping.KIND_VAR:
                return values[e.a];
            case SuccessTyping.KIND_ISINT:
                return evaluate(c.get(0), values) < 1000 ? 1001 : 1000;
            case SuccessTyping.KIND_IF:
                int asked = evaluate(c.get(0), values);
                if (asked != 1000 && asked != 1001) {
                    throw new Stop(1);
                }
                return evaluate(c.get(asked == 1001 ? 1 : 2), values);
            case SuccessTyping.KIND_CALL:
                return evaluateCall(e, values);
            default:
                int x = evaluate(c.get(0), values);
                int y = evaluate(c.get(1), values);
                return evaluatePair(e.kind, x, y);
        }
    }

    private static int evaluatePair(int kind, int x, int y) {
        if (kind == SuccessTyping.KIND_EQ) {
            return x == y ? 1001 : 1000;
        }
        if (x >= 1000 || y >= 1000) {
            throw new Stop(1);
        }
        if (kind == SuccessTyping.KIND_LESS) {
            return x < y ? 1001 : 1000;
        }
        int number = kind == SuccessTyping.KIND_ADD ? x + y : x - y;
        if (Math.abs(number) > 99) {
            throw new Stop(1);
        }
        return number;
    }

    private int evaluateCall(Node e, int[] values) {
        int[] given = new int[2];
        for (int i = 0; i < e.b; i++) {
            given[i] = evaluate(e.children.get(i), values);
        }
        if (!defined(e.a) || slots[e.a].arity != e.b) {
            throw new Stop(1);
        }
        if (made >= 200 || active >= 16) {
            throw new Stop(2);
        }
        return call(e.a, given);
    }

    int result() {
        return result;
    }

    int nodeAt(int f, int i) {
        if (!inside(f) || slots[f] == null || i < 0 || i >= slots[f].body.size()) {
            return -1;
        }
        Node node = slots[f].body.get(i);
        return node.kind * 1024 + (node.a + 128) * 4 + node.b;
    }

    int bodySize(int f) {
        return inside(f) && slots[f] != null ? slots[f].body.size() : -1;
    }

    int arity(int f) {
        return inside(f) && slots[f] != null ? slots[f].arity : -1;
    }

    int building() {
        return building;
    }

    int pending() {
        return building < 0 ? 0 : slots[building].pending.size();
    }
}
