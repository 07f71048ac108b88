/**
 * Infers what the functions of a tiny dynamically typed language take and give, and runs them.
 * What each method answers is told in the document's promises; README.md shows the use.
 */
public final class SuccessTyping {
    public static final int KIND_INT = 0;
    public static final int KIND_ATOM = 1;
    public static final int KIND_VAR = 2;
    public static final int KIND_ADD = 3;
    public static final int KIND_SUB = 4;
    public static final int KIND_LESS = 5;
    public static final int KIND_EQ = 6;
    public static final int KIND_ISINT = 7;
    public static final int KIND_IF = 8;
    public static final int KIND_CALL = 9;
    public static final int ATOM_BASE = 1000;
    public static final int FALSE_CODE = 1000;
    public static final int TRUE_CODE = 1001;
    public static final int INT_MIN = -99;
    public static final int INT_MAX = 99;
    public static final int MAX_FUNCTIONS = 8;
    public static final int MIN_CAPACITY = 16;
    public static final int MAX_CAPACITY = 128;
    public static final int MAX_DEPTH = 10;
    public static final int CALL_LIMIT = 200;
    public static final int ACTIVE_LIMIT = 16;
    public static final int WHICH_P0 = 0;
    public static final int WHICH_P1 = 1;
    public static final int WHICH_RESULT = 2;
    public static final int NO_INT = 1000;
    public static final int BAD = -1000;
    public static final int RUN_OK = 0;
    public static final int RUN_FAIL = 1;
    public static final int RUN_LIMIT = 2;
    public static final int RUN_REFUSED = 3;
    public static final int END_NOT_BUILDING = -1;
    public static final int END_DISCARDED = -2;

    private static final int MAX_ATOM = 7;
    private static final int MAX_ARITY = 2;
    private static final int MAX_CHILDREN = 3;
    private static final int NONE = -1;

    private static final int UNDEFINED = 0;
    private static final int BUILDING = 1;
    private static final int DEFINED = 2;

    // A type is one int, so that equal types are equal ints and the empty type is 0: the atom mask
    // in bits 0..7, the low bound in bits 8..15 and the high bound in bits 16..23. A bound is kept
    // plus BOUND_SHIFT, which is never 0, so 0 in both fields can stand for no integers.
    private static final int BOUND_SHIFT = 100;
    private static final int LOW_PLACE = 8;
    private static final int HIGH_PLACE = 16;
    private static final int LOW_FIELD = 255 << LOW_PLACE;
    private static final int HIGH_FIELD = 255 << HIGH_PLACE;
    private static final int INTS_FIELDS = LOW_FIELD | HIGH_FIELD;
    private static final int EMPTY = 0;
    private static final int ATOMS = 255;
    private static final int BOOL = 3;
    private static final int INTS =
            (INT_MIN + BOUND_SHIFT) << LOW_PLACE | (INT_MAX + BOUND_SHIFT) << HIGH_PLACE;
    private static final int ANY = ATOMS | INTS;
    private static final int EXACT_MIN = -8;
    private static final int EXACT_MAX = 8;
    private static final int FALSE_BIT = 1;
    private static final int TRUE_BIT = 2;

    private static final int SUMMARY_TYPES = 3;
    private static final int SUMMARY_LENGTH = MAX_FUNCTIONS * SUMMARY_TYPES;
    private static final int CHILDREN_LENGTH = MAX_CAPACITY * MAX_CHILDREN;
    private static final int AFTER_LENGTH = MAX_CAPACITY * MAX_ARITY;
    private static final int VALUES_LENGTH = ACTIVE_LIMIT * MAX_CAPACITY;
    private static final int ARGUMENTS_LENGTH = ACTIVE_LIMIT * MAX_ARITY;

    // A table can grow some 1,100 times at most, and a run makes some 26,000 moves at most.
    private static final int LOOP_BOUND = 1000000;

    private static final int NO_VALUE = 2000;
    private static final int RUN_GOING = -1;

    private final int slotCount;
    private final int capacity;

    private final int[] slotStates = new int[MAX_FUNCTIONS];
    private final int[] slotArities = new int[MAX_FUNCTIONS];
    private final int[] slotStarts = new int[MAX_FUNCTIONS];
    private final int[] slotSizes = new int[MAX_FUNCTIONS];

    // The pool: one body after the other, the BUILDING one last, so that a discarded body is cut
    // off at its start.
    private final int[] kinds = new int[MAX_CAPACITY];
    private final int[] firstOperands = new int[MAX_CAPACITY];
    private final int[] secondOperands = new int[MAX_CAPACITY];
    private final int[] children = new int[CHILDREN_LENGTH];
    private final int[] parents = new int[MAX_CAPACITY];
    private final int[] depths = new int[MAX_CAPACITY];
    private int nodesUsed;

    private int buildingSlot;
    private final int[] pendingNodes = new int[MAX_CAPACITY];
    private int pendingCount;

    private final int[] summaries = new int[SUMMARY_LENGTH];
    private final int[] nextSummaries = new int[SUMMARY_LENGTH];
    private boolean summariesCurrent;

    // The outcome of abstract evaluation for each node. BOT is kept as EMPTY everywhere, so that a
    // join with it changes nothing.
    private final int[] nodeTypes = new int[MAX_CAPACITY];
    private final int[] paramsAfter = new int[AFTER_LENGTH];
    // The types of the parameters before the next node; ANY past the arity, EMPTY after BOT.
    private final int[] params = new int[MAX_ARITY];

    // Every active call has room for the value of each node of its body.
    private final int[] values = new int[VALUES_LENGTH];
    private final int[] arguments = new int[ARGUMENTS_LENGTH];
    private final int[] frameSlots = new int[ACTIVE_LIMIT];
    private final int[] frameNodes = new int[ACTIVE_LIMIT];
    private int callsActive;
    private int callsMade;
    private int runOutcome;
    private int runValue;

    public SuccessTyping(int functions, int capacity) {
        this.slotCount = clamp(functions, 1, MAX_FUNCTIONS);
        this.capacity = clamp(capacity, MIN_CAPACITY, MAX_CAPACITY);
        this.buildingSlot = NONE;
    }

    public boolean begin(int f, int arity) {
        if (buildingSlot != NONE || !isSlot(f)) {
            return false;
        }
        if (slotStates[f] != UNDEFINED || arity < 0 || arity > MAX_ARITY) {
            return false;
        }
        slotStates[f] = BUILDING;
        slotArities[f] = arity;
        slotStarts[f] = nodesUsed;
        slotSizes[f] = 0;
        buildingSlot = f;
        return true;
    }

    public boolean node(int kind, int a, int b) {
        if (buildingSlot == NONE || !isKind(kind) || !operandsFit(kind, a, b)) {
            return false;
        }
        int childCount = childrenOf(kind, b);
        if (pendingCount < childCount || nodesUsed >= capacity) {
            return false;
        }
        int depth = depthOver(childCount);
        if (depth > MAX_DEPTH) {
            return false;
        }
        adoptPending(childCount);
        kinds[nodesUsed] = kind;
        firstOperands[nodesUsed] = usesFirstOperand(kind) ? a : 0;
        secondOperands[nodesUsed] = kind == KIND_CALL ? b : 0;
        parents[nodesUsed] = NONE;
        depths[nodesUsed] = depth;
        pendingNodes[pendingCount] = nodesUsed;
        pendingCount++;
        nodesUsed++;
        slotSizes[buildingSlot]++;
        return true;
    }

    public int end() {
        if (buildingSlot == NONE) {
            return END_NOT_BUILDING;
        }
        int f = buildingSlot;
        boolean whole = pendingCount == 1;
        buildingSlot = NONE;
        pendingCount = 0;
        if (!whole) {
            slotStates[f] = UNDEFINED;
            nodesUsed = slotStarts[f];
            return END_DISCARDED;
        }
        slotStates[f] = DEFINED;
        summariesCurrent = false;
        return f;
    }

    public int analyze() {
        for (int i = 0; i < SUMMARY_LENGTH; i++) {
            summaries[i] = EMPTY;
        }
        boolean changed = true;
        for (int round = 0; round < LOOP_BOUND && changed; round++) {
            for (int f = 0; f < slotCount; f++) {
                inferSlot(f);
            }
            changed = takeNextSummaries();
        }
        summariesCurrent = true;
        return countNeverReturning();
    }

    public boolean analyzed() {
        return summariesCurrent;
    }

    public int atoms(int f, int which) {
        if (!isSummary(f, which)) {
            return -1;
        }
        return summaries[f * SUMMARY_TYPES + which] & ATOMS;
    }

    public int intLo(int f, int which) {
        if (!isSummary(f, which)) {
            return BAD;
        }
        int type = summaries[f * SUMMARY_TYPES + which];
        return hasInts(type) ? lowOf(type) : NO_INT;
    }

    public int intHi(int f, int which) {
        if (!isSummary(f, which)) {
            return BAD;
        }
        int type = summaries[f * SUMMARY_TYPES + which];
        return hasInts(type) ? highOf(type) : NO_INT;
    }

    public boolean member(int f, int which, int v) {
        if (!isSummary(f, which)) {
            return false;
        }
        int type = summaries[f * SUMMARY_TYPES + which];
        if (isInteger(v)) {
            return hasInts(type) && lowOf(type) <= v && v <= highOf(type);
        }
        return isAtom(v) && (type >> (v - ATOM_BASE) & 1) == 1;
    }

    public int run(int f, int x, int y) {
        if (!isSlot(f) || slotStates[f] != DEFINED) {
            return RUN_REFUSED;
        }
        if (slotArities[f] >= 1 && !isValue(x)) {
            return RUN_REFUSED;
        }
        if (slotArities[f] == 2 && !isValue(y)) {
            return RUN_REFUSED;
        }
        callsMade = 0;
        callsActive = 0;
        runOutcome = RUN_GOING;
        runValue = 0;
        enterCall(f, x, y);
        for (int move = 0; move < LOOP_BOUND && runOutcome == RUN_GOING; move++) {
            makeMove();
        }
        return runOutcome;
    }

    public int result() {
        return runValue;
    }

    public int nodeAt(int f, int i) {
        if (!hasBody(f) || i < 0 || i >= slotSizes[f]) {
            return -1;
        }
        int at = slotStarts[f] + i;
        return kinds[at] * 1024 + (firstOperands[at] + 128) * 4 + secondOperands[at];
    }

    public int bodySize(int f) {
        return hasBody(f) ? slotSizes[f] : -1;
    }

    public int arity(int f) {
        return hasBody(f) ? slotArities[f] : -1;
    }

    public int building() {
        return buildingSlot;
    }

    public int pending() {
        return pendingCount;
    }

    private static int clamp(int value, int least, int greatest) {
        if (value < least) {
            return least;
        }
        return value > greatest ? greatest : value;
    }

    private boolean isSlot(int f) {
        return f >= 0 && f < slotCount;
    }

    private boolean hasBody(int f) {
        return f >= 0 && f < slotCount && slotStates[f] != UNDEFINED;
    }

    private boolean isSummary(int f, int which) {
        return f >= 0 && f < slotCount && which >= WHICH_P0 && which <= WHICH_RESULT;
    }

    private static boolean isInteger(int code) {
        return code >= INT_MIN && code <= INT_MAX;
    }

    private static boolean isAtom(int code) {
        return code >= ATOM_BASE && code <= ATOM_BASE + MAX_ATOM;
    }

    private static boolean isValue(int code) {
        return isInteger(code) || isAtom(code);
    }

    // ---- building a body ----

    private static boolean isKind(int kind) {
        return kind >= KIND_INT && kind <= KIND_CALL;
    }

    private boolean operandsFit(int kind, int a, int b) {
        switch (kind) {
            case KIND_INT:
                return isInteger(a);
            case KIND_ATOM:
                return a >= 0 && a <= MAX_ATOM;
            case KIND_VAR:
                return a >= 0 && a < slotArities[buildingSlot];
            case KIND_CALL:
                return isSlot(a) && b >= 0 && b <= MAX_ARITY;
            default:
                return true;
        }
    }

    private static boolean usesFirstOperand(int kind) {
        return kind == KIND_INT || kind == KIND_ATOM || kind == KIND_VAR || kind == KIND_CALL;
    }

    private static int childrenOf(int kind, int b) {
        switch (kind) {
            case KIND_ADD:
            case KIND_SUB:
            case KIND_LESS:
            case KIND_EQ:
                return 2;
            case KIND_ISINT:
                return 1;
            case KIND_IF:
                return 3;
            case KIND_CALL:
                return b;
            default:
                return 0;
        }
    }

    private int depthOver(int childCount) {
        int deepest = 0;
        for (int i = pendingCount - childCount; i < pendingCount; i++) {
            int depth = depths[pendingNodes[i]];
            if (depth > deepest) {
                deepest = depth;
            }
        }
        return deepest + 1;
    }

    private void adoptPending(int childCount) {
        int first = pendingCount - childCount;
        for (int i = 0; i < childCount; i++) {
            int child = pendingNodes[first + i];
            children[nodesUsed * MAX_CHILDREN + i] = child;
            parents[child] = nodesUsed;
        }
        pendingCount = first;
    }

    private boolean isCondition(int node) {
        int parent = parents[node];
        return parent != NONE && kinds[parent] == KIND_IF
                && children[parent * MAX_CHILDREN] == node;
    }

    private boolean isThenBranch(int node) {
        int parent = parents[node];
        return parent != NONE && kinds[parent] == KIND_IF
                && children[parent * MAX_CHILDREN + 1] == node;
    }

    // ---- types ----

    private static boolean hasInts(int type) {
        return (type & INTS_FIELDS) != 0;
    }

    private static int lowOf(int type) {
        return ((type & LOW_FIELD) >> LOW_PLACE) - BOUND_SHIFT;
    }

    private static int highOf(int type) {
        return ((type & HIGH_FIELD) >> HIGH_PLACE) - BOUND_SHIFT;
    }

    private static int join(int s, int t) {
        int mask = (s | t) & ATOMS;
        if (!hasInts(s)) {
            return mask | (t & INTS_FIELDS);
        }
        if (!hasInts(t)) {
            return mask | (s & INTS_FIELDS);
        }
        int low = (s & LOW_FIELD) < (t & LOW_FIELD) ? s & LOW_FIELD : t & LOW_FIELD;
        int high = (s & HIGH_FIELD) > (t & HIGH_FIELD) ? s & HIGH_FIELD : t & HIGH_FIELD;
        return mask | low | high;
    }

    private static int meet(int s, int t) {
        int mask = s & t & ATOMS;
        int low = (s & LOW_FIELD) > (t & LOW_FIELD) ? s & LOW_FIELD : t & LOW_FIELD;
        int high = (s & HIGH_FIELD) < (t & HIGH_FIELD) ? s & HIGH_FIELD : t & HIGH_FIELD;
        // No integers on one side make high 0, below every low bound of the other side.
        boolean apart = low >> LOW_PLACE > high >> HIGH_PLACE;
        return apart ? mask : mask | low | high;
    }

    private static int rangeType(int least, int greatest) {
        int low = least < INT_MIN ? INT_MIN : least;
        int high = greatest > INT_MAX ? INT_MAX : greatest;
        if (low > high) {
            return EMPTY;
        }
        if (low < EXACT_MIN) {
            low = INT_MIN;
        } else if (low > EXACT_MAX) {
            low = EXACT_MAX;
        }
        if (high > EXACT_MAX) {
            high = INT_MAX;
        } else if (high < EXACT_MIN) {
            high = EXACT_MIN;
        }
        return (low + BOUND_SHIFT) << LOW_PLACE | (high + BOUND_SHIFT) << HIGH_PLACE;
    }

    // ---- analysis ----

    private boolean takeNextSummaries() {
        boolean changed = false;
        for (int i = 0; i < SUMMARY_LENGTH; i++) {
            if (summaries[i] != nextSummaries[i]) {
                summaries[i] = nextSummaries[i];
                changed = true;
            }
        }
        return changed;
    }

    private int countNeverReturning() {
        int count = 0;
        for (int f = 0; f < slotCount; f++) {
            int gives = summaries[f * SUMMARY_TYPES + WHICH_RESULT];
            if (slotStates[f] == DEFINED && gives == EMPTY) {
                count++;
            }
        }
        return count;
    }

    private void inferSlot(int f) {
        int base = f * SUMMARY_TYPES;
        nextSummaries[base + WHICH_P0] = EMPTY;
        nextSummaries[base + WHICH_P1] = EMPTY;
        nextSummaries[base + WHICH_RESULT] = EMPTY;
        if (slotStates[f] != DEFINED) {
            return;
        }
        params[0] = ANY;
        params[1] = ANY;
        int stop = slotStarts[f] + slotSizes[f];
        for (int node = slotStarts[f]; node < stop; node++) {
            int type = inferNode(node);
            keepOutcome(node, type);
            turnAtBranch(node);
        }
        int root = stop - 1;
        for (int j = 0; j < slotArities[f]; j++) {
            nextSummaries[base + j] = paramsAfter[root * MAX_ARITY + j];
        }
        nextSummaries[base + WHICH_RESULT] = nodeTypes[root];
    }

    // In postfix order the parameter types flow from each node to the next one stored, save into
    // the two branches of an IF, which both start from what its condition left.
    private void turnAtBranch(int node) {
        if (isCondition(node)) {
            enterBranch(node, TRUE_BIT, INTS);
        } else if (isThenBranch(node)) {
            int condition = children[parents[node] * MAX_CHILDREN];
            enterBranch(condition, FALSE_BIT, ATOMS);
        }
    }

    private void enterBranch(int condition, int bit, int askedType) {
        params[0] = paramsAfter[condition * MAX_ARITY];
        params[1] = paramsAfter[condition * MAX_ARITY + 1];
        narrowVariable(condition, BOOL);
        if (kinds[condition] == KIND_ISINT) {
            narrowVariable(children[condition * MAX_CHILDREN], askedType);
        }
        if ((nodeTypes[condition] & bit) == 0) {
            params[0] = EMPTY;
        }
    }

    private void narrowVariable(int node, int type) {
        if (kinds[node] == KIND_VAR) {
            int j = firstOperands[node];
            params[j] = meet(params[j], type);
        }
    }

    private void keepOutcome(int node, int type) {
        boolean bottom = type == EMPTY || params[0] == EMPTY || params[1] == EMPTY;
        if (bottom) {
            params[0] = EMPTY;
            params[1] = EMPTY;
        }
        nodeTypes[node] = bottom ? EMPTY : type;
        paramsAfter[node * MAX_ARITY] = params[0];
        paramsAfter[node * MAX_ARITY + 1] = params[1];
    }

    private int inferNode(int node) {
        switch (kinds[node]) {
            case KIND_INT:
                return rangeType(firstOperands[node], firstOperands[node]);
            case KIND_ATOM:
                return 1 << firstOperands[node];
            case KIND_VAR:
                return params[firstOperands[node]];
            case KIND_ADD:
            case KIND_SUB:
            case KIND_LESS:
                return inferNumeric(node);
            case KIND_EQ:
                return inferEqual(node);
            case KIND_ISINT:
                return inferIsInt(node);
            case KIND_IF:
                return inferIf(node);
            default:
                return inferCall(node);
        }
    }

    private int inferNumeric(int node) {
        int x = children[node * MAX_CHILDREN];
        int y = children[node * MAX_CHILDREN + 1];
        if (!hasInts(nodeTypes[x]) || !hasInts(nodeTypes[y])) {
            return EMPTY;
        }
        narrowVariable(x, INTS);
        narrowVariable(y, INTS);
        int lowX = lowOf(nodeTypes[x]);
        int highX = highOf(nodeTypes[x]);
        int lowY = lowOf(nodeTypes[y]);
        int highY = highOf(nodeTypes[y]);
        if (kinds[node] == KIND_ADD) {
            return rangeType(lowX + lowY, highX + highY);
        }
        if (kinds[node] == KIND_SUB) {
            return rangeType(lowX - highY, highX - lowY);
        }
        return (lowX < highY ? TRUE_BIT : 0) | (highX >= lowY ? FALSE_BIT : 0);
    }

    private int inferEqual(int node) {
        int x = children[node * MAX_CHILDREN];
        int y = children[node * MAX_CHILDREN + 1];
        int common = meet(nodeTypes[x], nodeTypes[y]);
        return common == EMPTY ? FALSE_BIT : BOOL;
    }

    private int inferIsInt(int node) {
        int asked = nodeTypes[children[node * MAX_CHILDREN]];
        return ((asked & ATOMS) != 0 ? FALSE_BIT : 0) | (hasInts(asked) ? TRUE_BIT : 0);
    }

    private int inferIf(int node) {
        int y = children[node * MAX_CHILDREN + 1];
        int z = children[node * MAX_CHILDREN + 2];
        for (int j = 0; j < MAX_ARITY; j++) {
            params[j] = join(paramsAfter[y * MAX_ARITY + j], paramsAfter[z * MAX_ARITY + j]);
        }
        return join(nodeTypes[y], nodeTypes[z]);
    }

    private int inferCall(int node) {
        int g = firstOperands[node];
        int count = secondOperands[node];
        if (slotStates[g] != DEFINED || slotArities[g] != count) {
            return EMPTY;
        }
        for (int i = 0; i < count; i++) {
            int child = children[node * MAX_CHILDREN + i];
            int taken = summaries[g * SUMMARY_TYPES + i];
            int common = meet(nodeTypes[child], taken);
            if (common == EMPTY) {
                return EMPTY;
            }
            narrowVariable(child, taken);
        }
        return summaries[g * SUMMARY_TYPES + WHICH_RESULT];
    }

    // ---- runs ----

    private void enterCall(int g, int x, int y) {
        arguments[callsActive * MAX_ARITY] = x;
        arguments[callsActive * MAX_ARITY + 1] = y;
        frameSlots[callsActive] = g;
        frameNodes[callsActive] = slotStarts[g];
        callsActive++;
        callsMade++;
    }

    private void makeMove() {
        int frame = callsActive - 1;
        int node = frameNodes[frame];
        int slot = frameSlots[frame];
        if (node == slotStarts[slot] + slotSizes[slot]) {
            leaveCall(frame, node - 1);
        } else if (kinds[node] == KIND_CALL) {
            tryCall(frame, node);
        } else {
            int value = evaluate(frame, node);
            finishNode(frame, node, value);
        }
    }

    private void leaveCall(int frame, int root) {
        int value = values[frame * MAX_CAPACITY + root];
        callsActive = frame;
        if (frame == 0) {
            runOutcome = RUN_OK;
            runValue = value;
        } else {
            finishNode(frame - 1, frameNodes[frame - 1], value);
        }
    }

    private void tryCall(int frame, int node) {
        int g = firstOperands[node];
        int count = secondOperands[node];
        if (slotStates[g] != DEFINED || slotArities[g] != count) {
            runOutcome = RUN_FAIL;
        } else if (callsMade >= CALL_LIMIT || callsActive >= ACTIVE_LIMIT) {
            runOutcome = RUN_LIMIT;
        } else {
            int x = count >= 1 ? childValue(frame, node, 0) : 0;
            int y = count == 2 ? childValue(frame, node, 1) : 0;
            enterCall(g, x, y);
        }
    }

    private int childValue(int frame, int node, int child) {
        return values[frame * MAX_CAPACITY + children[node * MAX_CHILDREN + child]];
    }

    // Only the branch that an IF takes is evaluated: a false condition skips the first branch, and
    // the end of the first branch skips the second.
    private void finishNode(int frame, int node, int value) {
        values[frame * MAX_CAPACITY + node] = value;
        frameNodes[frame] = node + 1;
        if (value == NO_VALUE) {
            runOutcome = RUN_FAIL;
        } else if (isCondition(node)) {
            if (value == FALSE_CODE) {
                frameNodes[frame] = children[parents[node] * MAX_CHILDREN + 1] + 1;
            } else if (value != TRUE_CODE) {
                runOutcome = RUN_FAIL;
            }
        } else if (isThenBranch(node)) {
            frameNodes[frame] = parents[node];
        }
    }

    private int evaluate(int frame, int node) {
        switch (kinds[node]) {
            case KIND_INT:
                return firstOperands[node];
            case KIND_ATOM:
                return ATOM_BASE + firstOperands[node];
            case KIND_VAR:
                return arguments[frame * MAX_ARITY + firstOperands[node]];
            case KIND_IF:
                return evaluateIf(frame, node);
            case KIND_ISINT:
                return evaluateIsInt(frame, node);
            default:
                return evaluatePair(frame, node);
        }
    }

    private int evaluateIf(int frame, int node) {
        int condition = childValue(frame, node, 0);
        return childValue(frame, node, condition == TRUE_CODE ? 1 : 2);
    }

    private int evaluateIsInt(int frame, int node) {
        int asked = childValue(frame, node, 0);
        return isInteger(asked) ? TRUE_CODE : FALSE_CODE;
    }

    private int evaluatePair(int frame, int node) {
        int x = childValue(frame, node, 0);
        int y = childValue(frame, node, 1);
        if (kinds[node] == KIND_EQ) {
            return x == y ? TRUE_CODE : FALSE_CODE;
        }
        if (!isInteger(x) || !isInteger(y)) {
            return NO_VALUE;
        }
        if (kinds[node] == KIND_LESS) {
            return x < y ? TRUE_CODE : FALSE_CODE;
        }
        int number = kinds[node] == KIND_ADD ? x + y : x - y;
        return isInteger(number) ? number : NO_VALUE;
    }
}
