/** Generic functions whose methods are chosen by the classes of all arguments; DOC.md has the promises. */
public final class MultiDispatch {
    public static final int OK = 0, NO_METHOD = 1, AMBIGUOUS = 2, NO_NEXT = 3, NO_SLOT = 4, TYPE = 5, DEEP = 6;
    public static final int LONG = 7, FULL = 8, BAD = -1, BROKEN = -2, SEALED = -3, SYNTAX = -4;

    private static final int CLASSES = 16, SUPERS = 3, SLOTS = 4, OBJECTS = 20;
    private static final int GENERICS = 5, PARAMETERS = 3, METHODS = 24, TOKENS = 16;
    private static final int MOST_FRAMES = 8, MOST_STEPS = 120;

    private static final int OBJECT = 0, INTEGER = 1;

    private static final int NUM = 0, ARG = 1, NEXT = 2, CALL = 3, GET = 4, SET = 5, ADD = 6;
    private static final int SUB = 7, LESS = 8, IF = 9, SEQ = 10, IS = 11, MAKE = 12;

    private static final int NONE = -1;
    private static final long NOTHING = -9223372036854775808L;
    private static final long FIRST_OBJECT = 4294967296L;
    // Behind all values, so that a specialiser is one long and two of them are the same if the longs are.
    private static final long FIRST_CLASS = 8589934592L;

    // What a running call does next; below 0, since from 0 on the state is the call's answer.
    private static final int ENTER = -1, WORK = -2, TAKE = -3;
    // Each token is worked once, taken once and enters at most one method that is left once: far below this.
    private static final int MOST_TURNS = 1000000;

    // The method draft is kept as one more method, so that what reads a body reads the draft too.
    private static final int DRAFT = METHODS;
    // One place more than there are methods: there every order is over or broken, as at all places behind.
    private static final int ORDER_PLACES = METHODS + 1;

    private static final int LINE_CELLS = CLASSES * CLASSES;
    // One row more than there are classes: the slot draft stands in the row of the class that comes next.
    private static final int CLASS_SLOT_CELLS = (CLASSES + 1) * SLOTS;
    private static final int OBJECT_SLOT_CELLS = OBJECTS * SLOTS;
    private static final int BODIES = METHODS + 1;
    private static final int SPECIAL_CELLS = BODIES * PARAMETERS;
    private static final int TOKEN_CELLS = BODIES * TOKENS;
    private static final int FRAME_ARGUMENT_CELLS = MOST_FRAMES * PARAMETERS;

    private int classCount = 2;
    private final int[] lineClass = new int[LINE_CELLS];
    private final int[] lineLength = new int[CLASSES];
    private final boolean[] isSealed = new boolean[CLASSES];
    private final boolean[] classHasSlot = new boolean[CLASS_SLOT_CELLS];
    private final int[] classSlot = new int[CLASS_SLOT_CELLS];
    private final int[] superDraft = new int[SUPERS];
    private int superCount = 0;

    private int objectCount = 0;
    private final int[] objectClass = new int[OBJECTS];
    private final boolean[] objectHasSlot = new boolean[OBJECT_SLOT_CELLS];
    private final long[] objectSlot = new long[OBJECT_SLOT_CELLS];

    private final int[] parameterCount = new int[GENERICS];
    private final int[] methodGeneric = new int[METHODS];
    private final long[] specialiser = new long[SPECIAL_CELLS];
    private int draftSpecialCount = 0;
    private final int[] tokenKind = new int[TOKEN_CELLS];
    private final int[] tokenValue = new int[TOKEN_CELLS];
    private final int[] tokenCount = new int[BODIES];

    private final long[] argument = new long[PARAMETERS];
    private final int[] rank = new int[SPECIAL_CELLS];
    private final int[] orderPlace = new int[ORDER_PLACES];

    private int state = OK;
    private int stepCount = 0;
    private long latestValue = NOTHING;
    private int enterGeneric = 0;
    private int enterPlace = 0;

    private int frameCount = 0;
    private final int[] frameMethod = new int[MOST_FRAMES];
    private final int[] framePlace = new int[MOST_FRAMES];
    private final int[] frameToken = new int[MOST_FRAMES];
    private final int[] frameOperators = new int[MOST_FRAMES];
    private final long[] frameArgument = new long[FRAME_ARGUMENT_CELLS];

    // Every operator and every value comes from a token that took a step, so there are never more than steps.
    private int operatorCount = 0;
    private final int[] operatorKind = new int[MOST_STEPS];
    private final int[] operatorValue = new int[MOST_STEPS];
    private final int[] operatorLeft = new int[MOST_STEPS];
    private int valueCount = 0;
    private final long[] workedOut = new long[MOST_STEPS];

    public MultiDispatch() {
        lineClass[OBJECT * CLASSES] = OBJECT;
        lineLength[OBJECT] = 1;
        lineClass[INTEGER * CLASSES] = INTEGER;
        lineClass[INTEGER * CLASSES + 1] = OBJECT;
        lineLength[INTEGER] = 2;
        for (int g = 0; g < GENERICS; g++) {
            parameterCount[g] = 1;
        }
        for (int m = 0; m < METHODS; m++) {
            methodGeneric[m] = NONE;
        }
    }

    public boolean under(int c) {
        if (!isClass(c) || superCount == SUPERS) {
            return false;
        }
        for (int i = 0; i < superCount; i++) {
            if (superDraft[i] == c) {
                return false;
            }
        }
        superDraft[superCount] = c;
        superCount++;
        return true;
    }

    public boolean slot(int n, int initial) {
        int cell = classCount * SLOTS + n;
        if (!isSlot(n) || classHasSlot[cell]) {
            return false;
        }
        classHasSlot[cell] = true;
        classSlot[cell] = initial;
        return true;
    }

    public int define() {
        if (classCount == CLASSES) {
            return FULL;
        }
        if (superCount == 0) {
            superDraft[0] = OBJECT;
            superCount = 1;
        }
        int answer = classCount;
        if (isSuperSealed()) {
            answer = SEALED;
        } else if (!mergeLine()) {
            answer = BROKEN;
        }
        superCount = 0;
        if (answer < 0) {
            emptySlotDraft();
        } else {
            classCount++;
        }
        return answer;
    }

    public boolean seal(int c) {
        if (!isClass(c) || isSealed[c]) {
            return false;
        }
        isSealed[c] = true;
        return true;
    }

    public int line(int c, int k) {
        if (!isClass(c) || k < 0 || k >= lineLength[c]) {
            return NONE;
        }
        return lineClass[c * CLASSES + k];
    }

    public int generic(int g, int n) {
        if (!isGeneric(g) || n < 1 || n > PARAMETERS) {
            return BAD;
        }
        for (int m = 0; m < METHODS; m++) {
            if (methodGeneric[m] == g || bodyCalls(m, g)) {
                return SEALED;
            }
        }
        parameterCount[g] = n;
        return OK;
    }

    public boolean special(boolean single, long v) {
        boolean known = single ? isValue(v) : v >= 0 && v < classCount;
        if (!known || draftSpecialCount == PARAMETERS) {
            return false;
        }
        specialiser[DRAFT * PARAMETERS + draftSpecialCount] = single ? v : FIRST_CLASS + v;
        draftSpecialCount++;
        return true;
    }

    public boolean token(int kind, int value) {
        if (!isToken(kind, value) || tokenCount[DRAFT] == TOKENS) {
            return false;
        }
        int cell = DRAFT * TOKENS + tokenCount[DRAFT];
        tokenKind[cell] = kind;
        tokenValue[cell] = value;
        tokenCount[DRAFT]++;
        return true;
    }

    public int method(int g) {
        if (!isGeneric(g)) {
            return BAD;
        }
        int answer = SYNTAX;
        if (isDraftSound(g)) {
            int m = placeForDraft(g);
            answer = m == NONE ? FULL : m;
            if (m != NONE) {
                copyDraft(m, g);
            }
        }
        draftSpecialCount = 0;
        tokenCount[DRAFT] = 0;
        return answer;
    }

    public boolean remove(int m) {
        if (m < 0 || m >= METHODS || methodGeneric[m] == NONE) {
            return false;
        }
        methodGeneric[m] = NONE;
        return true;
    }

    public int make(int c) {
        if (!isClass(c) || c == INTEGER) {
            return BAD;
        }
        return objectCount == OBJECTS ? FULL : addObject(c);
    }

    public int clear() {
        for (int m = 0; m < METHODS; m++) {
            if (methodGeneric[m] != NONE && hasObjectSpecial(m)) {
                methodGeneric[m] = NONE;
            }
        }
        draftSpecialCount = 0;
        int count = objectCount;
        objectCount = 0;
        return count;
    }

    public int call(int g, long a, long b, long c) {
        if (!takeArguments(g, a, b, c)) {
            return BAD;
        }
        startCall(g);
        for (int turn = 0; turn < MOST_TURNS && state < 0; turn++) {
            if (state == ENTER) {
                enterMethod();
            } else if (state == WORK) {
                workToken();
            } else {
                takeValue();
            }
        }
        return state;
    }

    public long result() {
        return latestValue;
    }

    public int steps() {
        return stepCount;
    }

    public int order(int g, long a, long b, long c, int k) {
        if (k < 0 || !takeArguments(g, a, b, c)) {
            return NONE;
        }
        findOrder(g);
        return orderPlace[k < ORDER_PLACES ? k : ORDER_PLACES - 1];
    }

    public long get(int k, int n) {
        if (k < 0 || k >= objectCount || !isSlot(n) || !objectHasSlot[k * SLOTS + n]) {
            return NOTHING;
        }
        return objectSlot[k * SLOTS + n];
    }

    public int classOf(long v) {
        if (isInt(v)) {
            return INTEGER;
        }
        return isObject(v) ? objectClass[(int) (v - FIRST_OBJECT)] : NONE;
    }

    // What there is

    private boolean isClass(int c) {
        return c >= 0 && c < classCount;
    }

    private boolean isSlot(int n) {
        return n >= 0 && n < SLOTS;
    }

    private boolean isGeneric(int g) {
        return g >= 0 && g < GENERICS;
    }

    private boolean isInt(long v) {
        return v == (int) v;
    }

    private boolean isObject(long v) {
        return v >= FIRST_OBJECT && v < FIRST_OBJECT + objectCount;
    }

    private boolean isValue(long v) {
        return isInt(v) || isObject(v);
    }

    // Classes

    private boolean isSuperSealed() {
        for (int i = 0; i < superCount; i++) {
            if (isSealed[superDraft[i]]) {
                return true;
            }
        }
        return false;
    }

    private void emptySlotDraft() {
        for (int n = 0; n < SLOTS; n++) {
            classHasSlot[classCount * SLOTS + n] = false;
        }
    }

    /** Writes the line of the class that comes next; false if there is no merge. */
    private boolean mergeLine() {
        int row = classCount * CLASSES;
        int taken = 0;
        lineClass[row] = classCount;
        int next = nextOfMerge(taken);
        int length = 1;
        for (; length < CLASSES && next >= 0; length++) {
            lineClass[row + length] = next;
            taken |= 1 << next;
            next = nextOfMerge(taken);
        }
        lineLength[classCount] = length;
        return next == NONE;
    }

    /**
     * The class that comes next when those in the bit set are taken; NONE if all lists are empty, BROKEN if no
     * list's first class can come. A class that comes stands in no list behind the first place, so leaving out
     * the taken ones is the same as taking them off.
     */
    private int nextOfMerge(int taken) {
        int failure = NONE;
        for (int list = 0; list <= superCount; list++) {
            int first = firstOfList(list, taken);
            if (first != NONE) {
                if (!standsBehind(first, taken)) {
                    return first;
                }
                failure = BROKEN;
            }
        }
        return failure;
    }

    private int firstOfList(int list, int taken) {
        for (int k = 0; k < CLASSES; k++) {
            int c = listEntry(list, k);
            if (c != NONE && (taken >> c & 1) == 0) {
                return c;
            }
        }
        return NONE;
    }

    private boolean standsBehind(int c, int taken) {
        for (int list = 0; list <= superCount; list++) {
            boolean behind = false;
            for (int k = 0; k < CLASSES; k++) {
                int entry = listEntry(list, k);
                if (behind && entry == c) {
                    return true;
                }
                behind |= entry != NONE && (taken >> entry & 1) == 0;
            }
        }
        return false;
    }

    /** The lists of the merge are the lines of the drafted superclasses and, as the last, the draft itself. */
    private int listEntry(int list, int k) {
        if (list == superCount) {
            return k < superCount ? superDraft[k] : NONE;
        }
        int c = superDraft[list];
        return k < lineLength[c] ? lineClass[c * CLASSES + k] : NONE;
    }

    private int placeInLine(int c, int s) {
        for (int k = 0; k < lineLength[c]; k++) {
            if (lineClass[c * CLASSES + k] == s) {
                return k;
            }
        }
        return NONE;
    }

    // Objects

    private int addObject(int c) {
        int k = objectCount;
        objectCount++;
        objectClass[k] = c;
        for (int n = 0; n < SLOTS; n++) {
            int owner = slotOwner(c, n);
            objectHasSlot[k * SLOTS + n] = owner != NONE;
            objectSlot[k * SLOTS + n] = owner == NONE ? 0 : classSlot[owner * SLOTS + n];
        }
        return k;
    }

    private int slotOwner(int c, int n) {
        for (int k = 0; k < lineLength[c]; k++) {
            int owner = lineClass[c * CLASSES + k];
            if (classHasSlot[owner * SLOTS + n]) {
                return owner;
            }
        }
        return NONE;
    }

    // Methods and their draft

    private boolean isToken(int kind, int value) {
        switch (kind) {
            case NUM: case NEXT: case ADD: case SUB: case LESS: case IF: case SEQ:
                return true;
            case ARG:
                return value >= 0 && value < PARAMETERS;
            case CALL:
                return isGeneric(value);
            case GET: case SET:
                return isSlot(value);
            case IS: case MAKE:
                return isClass(value);
            default:
                return false;
        }
    }

    private int operandCount(int kind, int value) {
        switch (kind) {
            case CALL:
                return parameterCount[value];
            case GET: case IS:
                return 1;
            case SET: case ADD: case SUB: case LESS: case SEQ:
                return 2;
            case IF:
                return 3;
            default:
                return 0;
        }
    }

    /** The place behind the expression that begins at a place of a body; NONE if the body ends before it does. */
    private int endOfExpression(int m, int from) {
        int missing = 1;
        for (int i = from; i < tokenCount[m]; i++) {
            int cell = m * TOKENS + i;
            missing += operandCount(tokenKind[cell], tokenValue[cell]) - 1;
            if (missing == 0) {
                return i + 1;
            }
        }
        return NONE;
    }

    private boolean isDraftSound(int g) {
        if (draftSpecialCount != parameterCount[g]) {
            return false;
        }
        for (int i = 0; i < tokenCount[DRAFT]; i++) {
            int cell = DRAFT * TOKENS + i;
            if (tokenKind[cell] == ARG && tokenValue[cell] >= parameterCount[g]) {
                return false;
            }
        }
        return endOfExpression(DRAFT, 0) == tokenCount[DRAFT];
    }

    /** The method that the draft replaces, else the least free one; NONE if there is neither. */
    private int placeForDraft(int g) {
        int free = NONE;
        for (int m = 0; m < METHODS; m++) {
            if (methodGeneric[m] == g && hasDraftSpecials(m)) {
                return m;
            }
            if (free == NONE && methodGeneric[m] == NONE) {
                free = m;
            }
        }
        return free;
    }

    private boolean hasDraftSpecials(int m) {
        for (int i = 0; i < draftSpecialCount; i++) {
            if (specialiser[m * PARAMETERS + i] != specialiser[DRAFT * PARAMETERS + i]) {
                return false;
            }
        }
        return true;
    }

    private void copyDraft(int m, int g) {
        methodGeneric[m] = g;
        for (int i = 0; i < draftSpecialCount; i++) {
            specialiser[m * PARAMETERS + i] = specialiser[DRAFT * PARAMETERS + i];
        }
        tokenCount[m] = tokenCount[DRAFT];
        for (int i = 0; i < tokenCount[DRAFT]; i++) {
            tokenKind[m * TOKENS + i] = tokenKind[DRAFT * TOKENS + i];
            tokenValue[m * TOKENS + i] = tokenValue[DRAFT * TOKENS + i];
        }
    }

    private boolean bodyCalls(int m, int g) {
        if (methodGeneric[m] == NONE) {
            return false;
        }
        for (int i = 0; i < tokenCount[m]; i++) {
            int cell = m * TOKENS + i;
            if (tokenKind[cell] == CALL && tokenValue[cell] == g) {
                return true;
            }
        }
        return false;
    }

    private boolean hasObjectSpecial(int m) {
        for (int i = 0; i < parameterCount[methodGeneric[m]]; i++) {
            if (isObject(specialiser[m * PARAMETERS + i])) {
                return true;
            }
        }
        return false;
    }

    // The order of methods

    /** Takes over the arguments; false for what a call answers BAD. Those that g has no parameter for are free. */
    private boolean takeArguments(int g, long a, long b, long c) {
        if (!isGeneric(g)) {
            return false;
        }
        argument[0] = a;
        argument[1] = b;
        argument[2] = c;
        for (int i = 0; i < parameterCount[g]; i++) {
            if (!isValue(argument[i])) {
                return false;
            }
        }
        return true;
    }

    /** Fills all places with the order of g for the arguments: methods, then BROKEN or NONE up to the end. */
    private void findOrder(int g) {
        int left = 0;
        for (int m = 0; m < METHODS; m++) {
            if (methodGeneric[m] == g && rankMethod(m)) {
                left |= 1 << m;
            }
        }
        for (int place = 0; place < ORDER_PLACES; place++) {
            int m = leader(left);
            orderPlace[place] = m;
            if (m >= 0) {
                left &= ~(1 << m);
            }
        }
    }

    /** Notes how near each specialiser is to its argument; false if the method is not applicable. */
    private boolean rankMethod(int m) {
        for (int i = 0; i < parameterCount[methodGeneric[m]]; i++) {
            int cell = m * PARAMETERS + i;
            rank[cell] = rankOf(specialiser[cell], argument[i]);
            if (rank[cell] == NONE) {
                return false;
            }
        }
        return true;
    }

    private int rankOf(long wanted, long v) {
        if (wanted == v) {
            return 0;
        }
        if (wanted < FIRST_CLASS) {
            return NONE;
        }
        int c = isInt(v) ? INTEGER : objectClass[(int) (v - FIRST_OBJECT)];
        int s = (int) (wanted - FIRST_CLASS);
        int place = placeInLine(c, s);
        return place == NONE ? NONE : place + 1;
    }

    /** The one of the methods in the bit set that precedes all others; BROKEN if none does, NONE if it is empty. */
    private int leader(int left) {
        for (int m = 0; m < METHODS; m++) {
            if ((left >> m & 1) == 1 && precedesAll(m, left)) {
                return m;
            }
        }
        return left == 0 ? NONE : BROKEN;
    }

    private boolean precedesAll(int m, int left) {
        for (int other = 0; other < METHODS; other++) {
            if (other != m && (left >> other & 1) == 1 && !precedes(m, other)) {
                return false;
            }
        }
        return true;
    }

    // Two methods of a generic never have all specialisers the same, so nowhere farther means nearer somewhere.
    private boolean precedes(int m, int other) {
        for (int i = 0; i < parameterCount[methodGeneric[m]]; i++) {
            if (rank[m * PARAMETERS + i] > rank[other * PARAMETERS + i]) {
                return false;
            }
        }
        return true;
    }

    // A call at work

    private void startCall(int g) {
        stepCount = 0;
        latestValue = NOTHING;
        frameCount = 0;
        operatorCount = 0;
        valueCount = 0;
        enterGeneric = g;
        enterPlace = 0;
        state = ENTER;
    }

    // No token changes methods, so the order found anew at a NEXT is still that of when the generic was called.
    private void enterMethod() {
        findOrder(enterGeneric);
        int m = orderPlace[enterPlace];
        if (m == BROKEN) {
            state = AMBIGUOUS;
        } else if (m == NONE) {
            state = enterPlace == 0 ? NO_METHOD : NO_NEXT;
        } else if (frameCount == MOST_FRAMES) {
            state = DEEP;
        } else {
            pushFrame(m);
        }
    }

    private void pushFrame(int m) {
        frameMethod[frameCount] = m;
        framePlace[frameCount] = enterPlace;
        frameToken[frameCount] = 0;
        frameOperators[frameCount] = operatorCount;
        for (int i = 0; i < PARAMETERS; i++) {
            frameArgument[frameCount * PARAMETERS + i] = argument[i];
        }
        frameCount++;
        state = WORK;
    }

    private void workToken() {
        if (stepCount == MOST_STEPS) {
            state = LONG;
            return;
        }
        stepCount++;
        int frame = frameCount - 1;
        int cell = frameMethod[frame] * TOKENS + frameToken[frame];
        frameToken[frame]++;
        switch (tokenKind[cell]) {
            case NUM:
                pushValue(tokenValue[cell]);
                break;
            case ARG:
                pushValue(frameArgument[frame * PARAMETERS + tokenValue[cell]]);
                break;
            case NEXT:
                askNext(frame);
                break;
            case MAKE:
                workMake(tokenValue[cell]);
                break;
            default:
                pushOperator(tokenKind[cell], tokenValue[cell]);
        }
    }

    private void pushValue(long v) {
        workedOut[valueCount] = v;
        valueCount++;
        state = TAKE;
    }

    private void pushOperator(int kind, int v) {
        operatorKind[operatorCount] = kind;
        operatorValue[operatorCount] = v;
        operatorLeft[operatorCount] = operandCount(kind, v);
        operatorCount++;
    }

    private void askNext(int frame) {
        for (int i = 0; i < PARAMETERS; i++) {
            argument[i] = frameArgument[frame * PARAMETERS + i];
        }
        enterGeneric = methodGeneric[frameMethod[frame]];
        enterPlace = framePlace[frame] + 1;
        state = ENTER;
    }

    private void workMake(int c) {
        if (c == INTEGER) {
            state = TYPE;
        } else if (objectCount == OBJECTS) {
            state = FULL;
        } else {
            long k = addObject(c);
            pushValue(FIRST_OBJECT + k);
        }
    }

    /** Hands the value of an expression that is worked out to the operator that waits for it, or to the caller. */
    private void takeValue() {
        int frame = frameCount - 1;
        if (operatorCount == frameOperators[frame]) {
            leaveFrame();
            return;
        }
        int last = operatorCount - 1;
        operatorLeft[last]--;
        if (operatorKind[last] == IF) {
            goOnWithIf(frame, last);
        } else if (operatorKind[last] == SEQ) {
            // The second expression's value is that of the SEQ, so nothing waits for it.
            valueCount--;
            operatorCount--;
            state = WORK;
        } else if (operatorLeft[last] > 0) {
            state = WORK;
        } else {
            operatorCount--;
            apply(operatorKind[last], operatorValue[last]);
        }
    }

    private void leaveFrame() {
        frameCount--;
        if (frameCount == 0) {
            latestValue = workedOut[0];
            state = OK;
        }
    }

    /** Behind the condition a true IF waits for its second expression, to leave the third out then. */
    private void goOnWithIf(int frame, int last) {
        boolean isChosen = operatorLeft[last] == 1;
        boolean isTrue = false;
        if (!isChosen) {
            valueCount--;
            isTrue = workedOut[valueCount] != 0;
            state = WORK;
        }
        if (!isTrue) {
            frameToken[frame] = endOfExpression(frameMethod[frame], frameToken[frame]);
            operatorCount--;
        }
    }

    private void apply(int kind, int v) {
        switch (kind) {
            case CALL:
                applyCall(v);
                break;
            case GET:
                applyGet(v);
                break;
            case SET:
                applySet(v);
                break;
            case IS:
                applyIs(v);
                break;
            default:
                applyToInts(kind);
        }
    }

    private void applyCall(int g) {
        valueCount -= parameterCount[g];
        for (int i = 0; i < parameterCount[g]; i++) {
            argument[i] = workedOut[valueCount + i];
        }
        enterGeneric = g;
        enterPlace = 0;
        state = ENTER;
    }

    private void applyGet(int n) {
        valueCount--;
        int cell = slotCell(workedOut[valueCount], n);
        if (cell == NONE) {
            state = NO_SLOT;
        } else {
            pushValue(objectSlot[cell]);
        }
    }

    private void applySet(int n) {
        valueCount -= 2;
        int cell = slotCell(workedOut[valueCount], n);
        if (cell == NONE) {
            state = NO_SLOT;
        } else {
            objectSlot[cell] = workedOut[valueCount + 1];
            pushValue(objectSlot[cell]);
        }
    }

    /** Where a value's slot is kept; NONE if it is no object that has the slot. */
    private int slotCell(long v, int n) {
        if (!isObject(v)) {
            return NONE;
        }
        int cell = (int) (v - FIRST_OBJECT) * SLOTS + n;
        return objectHasSlot[cell] ? cell : NONE;
    }

    private void applyIs(int s) {
        valueCount--;
        int c = classOf(workedOut[valueCount]);
        int place = placeInLine(c, s);
        pushValue(place == NONE ? 0 : 1);
    }

    private void applyToInts(int kind) {
        valueCount -= 2;
        if (!isInt(workedOut[valueCount]) || !isInt(workedOut[valueCount + 1])) {
            state = TYPE;
            return;
        }
        int first = (int) workedOut[valueCount];
        int second = (int) workedOut[valueCount + 1];
        if (kind == ADD) {
            pushValue(first + second);
        } else if (kind == SUB) {
            pushValue(first - second);
        } else {
            pushValue(first < second ? 1 : 0);
        }
    }
}
