import java.util.Arrays;

/**
 * A why-not explainer for a two-table join query.
 *
 * <p>Tables hold no row twice, so the matches of a pair (a, c) differ in b alone. Most answers
 * below are therefore found by looking at the ten values of b, a set of which is a bit mask.
 */
public final class WhyNotJoin {
    public static final int NONE = -10001;
    public static final int INVALID = -10002;
    public static final int REJECTED = -10003;
    public static final int FULL = -10004;
    public static final int LEFT_STAGE = 0, RIGHT_STAGE = 1, JOIN_STAGE = 2;
    public static final int NO_LEFT_ROW = 0, NO_RIGHT_ROW = 1, NO_JOIN = 2, PRESENT = 9, FILTER = 10;

    private static final int VALUES = 10;
    private static final int PAIRS = VALUES * VALUES;
    private static final int MAX_ROWS = 10;
    private static final int MAX_FILTERS = 6;
    private static final int MAX_WISHES = 4;
    private static final int MAX_SAVED = 5;
    private static final int MAX_TEXT = 120;
    private static final int MAX_BYTE = 127;
    private static final int ERROR_KINDS = 3;

    private static final int AT_MOST = 0, AT_LEAST = 1, EQUAL = 2, UNEQUAL = 3;
    private static final int LEAST_JOIN_CONSTANT = -9, GREATEST_JOIN_CONSTANT = 18;

    private static final int SYNTAX_ERROR = -10;
    private static final int COMMAND_ERROR = -1000;

    private static final long DIGEST_START = 18084L;

    private final Query query = new Query();
    private final State state = query.state;
    private final History history = new History();
    private final Script script = new Script();
    private final Text text = script.text;
    private final int[] errors = new int[ERROR_KINDS];

    public WhyNotJoin() {
    }

    // ---- tables

    public int addLeft(int a, int b) {
        history.draft(state);
        return settle(state.left.insert(a, b));
    }

    public int addRight(int b, int c) {
        history.draft(state);
        return settle(state.right.insert(b, c));
    }

    public int removeLeft(int index) {
        history.draft(state);
        return settle(state.left.drop(index));
    }

    public int removeRight(int index) {
        history.draft(state);
        return settle(state.right.drop(index));
    }

    public int leftRow(int index) {
        return report(state.left.pairAt(index));
    }

    public int rightRow(int index) {
        return report(state.right.pairAt(index));
    }

    // ---- filters

    public int addFilter(int stage, int column, int operator, int constant) {
        history.draft(state);
        return settle(state.filters.insert(stage, column, operator, constant));
    }

    public int removeFilter(int index) {
        history.draft(state);
        return settle(state.filters.drop(index));
    }

    public int setConstant(int index, int constant) {
        history.draft(state);
        return settle(state.filters.replaceConstant(index, constant));
    }

    public int filterCount() {
        return state.filters.size;
    }

    public int constant(int index) {
        return report(state.filters.constantAt(index));
    }

    public int acceptedBy(int index) {
        if (!state.filters.holds(index)) {
            return report(INVALID);
        }
        return query.countAccepted(index);
    }

    // ---- query result

    public int answerCount() {
        return query.countAnswers();
    }

    public int answer(int index) {
        return report(index < 0 ? INVALID : query.answerAt(index));
    }

    public int matchCount(int a, int c) {
        return report(isPair(a, c) ? query.countMatches(a, c) : INVALID);
    }

    // ---- explanations

    public int blame(int a, int c) {
        return report(isPair(a, c) ? query.firstCause(a, c) : INVALID);
    }

    public int filtersToRemove(int a, int c) {
        return report(isPair(a, c) ? query.smallestRemoval(a, c) : INVALID);
    }

    public int repairedConstant(int a, int c, int index) {
        if (!isPair(a, c) || !state.filters.holds(index)) {
            return report(INVALID);
        }
        return query.nearestConstant(a, c, index);
    }

    public int missingRows(int a, int c) {
        return report(isPair(a, c) ? query.lowestCost(a, c) : INVALID);
    }

    public int missingB(int a, int c) {
        return report(isPair(a, c) ? query.bToInsert(a, c) : INVALID);
    }

    // ---- repairs

    public int insertMissing(int a, int c) {
        history.draft(state);
        return settle(isPair(a, c) ? insertRowsOf(a, c) : INVALID);
    }

    public int loosen(int a, int c) {
        history.draft(state);
        return settle(isPair(a, c) ? dropFiltersAgainst(a, c) : INVALID);
    }

    // ---- wishes

    public int addWish(int a, int c) {
        history.draft(state);
        return settle(state.wishes.insert(a, c));
    }

    public int clearWishes() {
        history.draft(state);
        return settle(state.wishes.dropAll());
    }

    public int satisfiedWishes() {
        return query.countSatisfiedWishes();
    }

    public int filtersToRemoveForWishes() {
        return query.smallestRemovalForWishes();
    }

    // ---- scripts

    public int append(int value) {
        return report(text.put(value));
    }

    public int clearText() {
        return text.empty();
    }

    public int runScript() {
        if (!script.parse()) {
            return SYNTAX_ERROR - script.position;
        }
        history.draft(state);
        for (int k = 0; k < script.size; k++) {
            if (isError(perform(k))) {
                history.returnToDraft(state);
                return COMMAND_ERROR - k;
            }
        }
        history.keepDraft();
        return script.size;
    }

    // ---- undo and errors

    public int undo() {
        return report(history.stepBack(state));
    }

    public int errorCount(int kind) {
        if (kind < 0 || kind >= ERROR_KINDS) {
            return report(INVALID);
        }
        return errors[kind];
    }

    public long digest() {
        long hash = DIGEST_START;
        for (int kind = 0; kind < ERROR_KINDS; kind++) {
            hash = mix(hash, errors[kind]);
        }
        hash = mix(hash, text.length);
        hash = mix(hash, history.depth);
        hash = mixPairs(hash, state.left);
        hash = mixPairs(hash, state.right);
        hash = mixFilters(hash);
        hash = mixAnswers(hash);
        hash = mixWishes(hash);
        return mix(hash, query.smallestRemovalForWishes());
    }

    private static long mix(long hash, long value) {
        return 31L * hash + value;
    }

    private static long mixPairs(long start, PairList list) {
        long hash = mix(start, list.size);
        for (int i = 0; i < list.size; i++) {
            hash = mix(hash, list.pairAt(i));
        }
        return hash;
    }

    private long mixFilters(long start) {
        FilterList filters = state.filters;
        long hash = mix(start, filters.size);
        for (int i = 0; i < filters.size && i < MAX_FILTERS; i++) {
            hash = mix(hash, filters.stages[i]);
            hash = mix(hash, filters.columns[i]);
            hash = mix(hash, filters.operators[i]);
            hash = mix(hash, filters.constants[i]);
            hash = mix(hash, query.countAccepted(i));
        }
        return hash;
    }

    private long mixAnswers(long start) {
        long hash = mix(start, query.countAnswers());
        for (int pair = 0; pair < PAIRS; pair++) {
            if (query.matches[pair] > 0) {
                hash = mix(hash, pair);
            }
        }
        return hash;
    }

    private long mixWishes(long start) {
        PairList wishes = state.wishes;
        long hash = mix(start, wishes.size);
        for (int i = 0; i < wishes.size; i++) {
            int pair = wishes.pairAt(i);
            int a = pair / VALUES;
            int c = pair % VALUES;
            hash = mix(hash, pair);
            hash = mix(hash, query.firstCause(a, c));
            hash = mix(hash, query.smallestRemoval(a, c));
            hash = mix(hash, query.lowestCost(a, c));
            hash = mix(hash, query.bToInsert(a, c));
        }
        return hash;
    }

    /** Ends an undoable call: the draft of the state before it is kept only if it succeeded. */
    private int settle(int result) {
        if (!isError(result)) {
            history.keepDraft();
        }
        return report(result);
    }

    private int report(int result) {
        if (isError(result)) {
            errors[INVALID - result]++;
        }
        return result;
    }

    private int insertRowsOf(int a, int c) {
        int b = query.cheapestB(a, c);
        if (b == NONE) {
            return REJECTED;
        }
        boolean needsLeft = !state.left.holds(a, b);
        boolean needsRight = !state.right.holds(b, c);
        if ((needsLeft && state.left.isFull()) || (needsRight && state.right.isFull())) {
            return FULL;
        }
        int inserted = 0;
        if (needsLeft) {
            state.left.insert(a, b);
            inserted++;
        }
        if (needsRight) {
            state.right.insert(b, c);
            inserted++;
        }
        return inserted;
    }

    private int dropFiltersAgainst(int a, int c) {
        int removal = query.smallestRemoval(a, c);
        if (removal == NONE) {
            return REJECTED;
        }
        // From the last to the first, because a removal moves the later filters down.
        for (int i = MAX_FILTERS - 1; i >= 0; i--) {
            if ((removal & (1 << i)) != 0) {
                state.filters.drop(i);
            }
        }
        return Integer.bitCount(removal);
    }

    private int perform(int command) {
        int first = script.number(command, 0);
        int second = script.number(command, 1);
        switch (script.letter(command)) {
            case 'l':
                return state.left.insert(first, second);
            case 'r':
                return state.right.insert(first, second);
            case 'f':
                return state.filters.insert(first, second, script.number(command, 2), script.number(command, 3));
            case 'x':
                return state.filters.drop(first);
            case 'w':
                return state.wishes.insert(first, second);
            default:
                return state.wishes.dropAll();
        }
    }

    private static boolean isError(int result) {
        return result == INVALID || result == REJECTED || result == FULL;
    }

    private static boolean isValue(int x) {
        return x >= 0 && x < VALUES;
    }

    private static boolean isPair(int first, int second) {
        return isValue(first) && isValue(second);
    }

    private static boolean isIn(int bs, int b) {
        return (bs & (1 << b)) != 0;
    }

    /** An ordered list of different pairs, each held as 10 * first + second. */
    private static final class PairList {
        private final int[] pairs = new int[MAX_ROWS];
        private final int limit;
        private int size;

        PairList(int limit) {
            this.limit = Math.min(limit, MAX_ROWS);
        }

        void copyFrom(PairList other) {
            System.arraycopy(other.pairs, 0, pairs, 0, MAX_ROWS);
            size = other.size;
        }

        boolean isFull() {
            return size >= limit;
        }

        boolean holds(int first, int second) {
            int wanted = VALUES * first + second;
            for (int i = 0; i < size && i < MAX_ROWS; i++) {
                if (pairs[i] == wanted) {
                    return true;
                }
            }
            return false;
        }

        int insert(int first, int second) {
            if (!isPair(first, second)) {
                return INVALID;
            }
            if (holds(first, second)) {
                return REJECTED;
            }
            if (isFull()) {
                return FULL;
            }
            pairs[size] = VALUES * first + second;
            size++;
            return size;
        }

        int drop(int index) {
            if (index < 0 || index >= size) {
                return INVALID;
            }
            size--;
            for (int i = index; i < size; i++) {
                pairs[i] = pairs[i + 1];
            }
            return size;
        }

        int dropAll() {
            int dropped = size;
            size = 0;
            return dropped;
        }

        int pairAt(int index) {
            if (index < 0) {
                return INVALID;
            }
            return index < size ? pairs[index] : NONE;
        }

        int firstAt(int index) {
            return pairAt(index) / VALUES;
        }

        int secondAt(int index) {
            return pairAt(index) % VALUES;
        }

        /** The set of all second values that stand behind this first value. */
        int secondsOf(int first) {
            int found = 0;
            for (int i = 0; i < size; i++) {
                if (firstAt(i) == first) {
                    found |= 1 << secondAt(i);
                }
            }
            return found;
        }

        /** The set of all first values that stand before this second value. */
        int firstsOf(int second) {
            int found = 0;
            for (int i = 0; i < size; i++) {
                if (secondAt(i) == second) {
                    found |= 1 << firstAt(i);
                }
            }
            return found;
        }
    }

    /** The filters of the query; each tests a left row (a, b) and a right row (b, c) with one b. */
    private static final class FilterList {
        private final int[] stages = new int[MAX_FILTERS];
        private final int[] columns = new int[MAX_FILTERS];
        private final int[] operators = new int[MAX_FILTERS];
        private final int[] constants = new int[MAX_FILTERS];
        private int size;

        void copyFrom(FilterList other) {
            System.arraycopy(other.stages, 0, stages, 0, MAX_FILTERS);
            System.arraycopy(other.columns, 0, columns, 0, MAX_FILTERS);
            System.arraycopy(other.operators, 0, operators, 0, MAX_FILTERS);
            System.arraycopy(other.constants, 0, constants, 0, MAX_FILTERS);
            size = other.size;
        }

        boolean holds(int index) {
            return index >= 0 && index < size && index < MAX_FILTERS;
        }

        int insert(int stage, int column, int operator, int constant) {
            if (!isColumn(stage, column) || operator < AT_MOST || operator > UNEQUAL
                    || !isConstant(stage, constant)) {
                return INVALID;
            }
            if (size >= MAX_FILTERS) {
                return FULL;
            }
            stages[size] = stage;
            columns[size] = column;
            operators[size] = operator;
            constants[size] = constant;
            size++;
            return size - 1;
        }

        int drop(int index) {
            if (!holds(index)) {
                return INVALID;
            }
            size--;
            for (int i = index; i < size; i++) {
                stages[i] = stages[i + 1];
                columns[i] = columns[i + 1];
                operators[i] = operators[i + 1];
                constants[i] = constants[i + 1];
            }
            return size;
        }

        int constantAt(int index) {
            return holds(index) ? constants[index] : INVALID;
        }

        int replaceConstant(int index, int constant) {
            if (!holds(index) || !isConstant(stages[index], constant)) {
                return INVALID;
            }
            int previous = constants[index];
            constants[index] = constant;
            return previous;
        }

        boolean isAtStage(int index, int stage) {
            return holds(index) && stages[index] == stage;
        }

        boolean mayHaveConstant(int index, int constant) {
            return holds(index) && isConstant(stages[index], constant);
        }

        boolean accepts(int index, int a, int b, int c) {
            return holds(index)
                    && compare(columnValue(stages[index], columns[index], a, b, c), operators[index], constants[index]);
        }

        /** Tells what the filter would accept if this were its constant. */
        boolean acceptsWith(int constant, int index, int a, int b, int c) {
            return holds(index)
                    && compare(columnValue(stages[index], columns[index], a, b, c), operators[index], constant);
        }

        /** The set of filters that do not accept the rows (a, b) and (b, c), bit i for filter i. */
        int rejecters(int a, int b, int c) {
            int found = 0;
            for (int i = 0; i < size && i < MAX_FILTERS; i++) {
                if (!accepts(i, a, b, c)) {
                    found |= 1 << i;
                }
            }
            return found;
        }

        private static boolean isColumn(int stage, int column) {
            if (stage < LEFT_STAGE || stage > JOIN_STAGE) {
                return false;
            }
            return column >= 0 && column <= (stage == JOIN_STAGE ? 2 : 1);
        }

        private static boolean isConstant(int stage, int constant) {
            if (stage == JOIN_STAGE) {
                return constant >= LEAST_JOIN_CONSTANT && constant <= GREATEST_JOIN_CONSTANT;
            }
            return isValue(constant);
        }

        private static boolean compare(int x, int operator, int constant) {
            switch (operator) {
                case AT_MOST:
                    return x <= constant;
                case AT_LEAST:
                    return x >= constant;
                case EQUAL:
                    return x == constant;
                default:
                    return x != constant;
            }
        }

        private static int columnValue(int stage, int column, int a, int b, int c) {
            switch (stage) {
                case LEFT_STAGE:
                    return column == 0 ? a : b;
                case RIGHT_STAGE:
                    return column == 0 ? b : c;
                default:
                    return column == 2 ? b : (column == 0 ? a - c : a + c);
            }
        }
    }

    /** All that undo brings back. */
    private static final class State {
        private final PairList left = new PairList(MAX_ROWS);
        private final PairList right = new PairList(MAX_ROWS);
        private final FilterList filters = new FilterList();
        private final PairList wishes = new PairList(MAX_WISHES);

        void copyFrom(State other) {
            left.copyFrom(other.left);
            right.copyFrom(other.right);
            filters.copyFrom(other.filters);
            wishes.copyFrom(other.wishes);
        }
    }

    /**
     * The undo stack, a ring with one slot more than it keeps. The slot behind the latest saved
     * state is the draft: the state before the running call, saved only if that call succeeds.
     */
    private static final class History {
        private static final int SLOTS = MAX_SAVED + 1;

        private final State[] slots = new State[SLOTS];
        private int draftSlot;
        private int depth;

        History() {
            for (int i = 0; i < SLOTS; i++) {
                slots[i] = new State();
            }
        }

        void draft(State state) {
            slots[draftSlot].copyFrom(state);
        }

        void keepDraft() {
            draftSlot = (draftSlot + 1) % SLOTS;
            depth = Math.min(depth + 1, MAX_SAVED);
        }

        void returnToDraft(State state) {
            state.copyFrom(slots[draftSlot]);
        }

        int stepBack(State state) {
            if (depth == 0) {
                return REJECTED;
            }
            draftSlot = (draftSlot + SLOTS - 1) % SLOTS;
            depth--;
            returnToDraft(state);
            return depth;
        }
    }

    /** What the query answers in the state, and why; its methods never change that state. */
    private static final class Query {
        private final State state = new State();
        /** How many matches each pair has, by 10 * a + c; true only after tallyMatches(). */
        private final int[] matches = new int[PAIRS];
        /** The filters against each wish with each joined b; made anew for each search. */
        private final int[] wishRejecters = new int[MAX_WISHES * VALUES];

        int countAccepted(int index) {
            if (state.filters.isAtStage(index, LEFT_STAGE)) {
                return countAcceptedLeft(index);
            }
            if (state.filters.isAtStage(index, RIGHT_STAGE)) {
                return countAcceptedRight(index);
            }
            return countAcceptedJoined(index);
        }

        private int countAcceptedLeft(int index) {
            int count = 0;
            for (int i = 0; i < state.left.size; i++) {
                if (state.filters.accepts(index, state.left.firstAt(i), state.left.secondAt(i), 0)) {
                    count++;
                }
            }
            return count;
        }

        private int countAcceptedRight(int index) {
            int count = 0;
            for (int i = 0; i < state.right.size; i++) {
                if (state.filters.accepts(index, 0, state.right.firstAt(i), state.right.secondAt(i))) {
                    count++;
                }
            }
            return count;
        }

        private int countAcceptedJoined(int index) {
            int count = 0;
            for (int i = 0; i < state.left.size; i++) {
                int a = state.left.firstAt(i);
                int b = state.left.secondAt(i);
                for (int j = 0; j < state.right.size; j++) {
                    if (state.right.firstAt(j) == b
                            && state.filters.accepts(index, a, b, state.right.secondAt(j))) {
                        count++;
                    }
                }
            }
            return count;
        }

        private void tallyMatches() {
            Arrays.fill(matches, 0);
            for (int i = 0; i < state.left.size; i++) {
                int a = state.left.firstAt(i);
                int b = state.left.secondAt(i);
                for (int j = 0; j < state.right.size; j++) {
                    int c = state.right.secondAt(j);
                    if (state.right.firstAt(j) == b && isPair(a, c)
                            && state.filters.rejecters(a, b, c) == 0) {
                        matches[VALUES * a + c]++;
                    }
                }
            }
        }

        int countAnswers() {
            tallyMatches();
            int count = 0;
            for (int pair = 0; pair < PAIRS; pair++) {
                if (matches[pair] > 0) {
                    count++;
                }
            }
            return count;
        }

        int answerAt(int index) {
            tallyMatches();
            int seen = 0;
            for (int pair = 0; pair < PAIRS; pair++) {
                if (matches[pair] > 0) {
                    if (seen == index) {
                        return pair;
                    }
                    seen++;
                }
            }
            return NONE;
        }

        /** The values b with which (a, b) and (b, c) are in the tables, filters being ignored. */
        private int joinedBs(int a, int c) {
            return state.left.secondsOf(a) & state.right.firstsOf(c);
        }

        int countMatches(int a, int c) {
            int joined = joinedBs(a, c);
            int count = 0;
            for (int b = 0; b < VALUES; b++) {
                if (isIn(joined, b) && state.filters.rejecters(a, b, c) == 0) {
                    count++;
                }
            }
            return count;
        }

        int firstCause(int a, int c) {
            int leftBs = state.left.secondsOf(a);
            if (leftBs == 0) {
                return NO_LEFT_ROW;
            }
            int culprit = emptyingFilter(LEFT_STAGE, leftBs, a, c);
            if (culprit != NONE) {
                return FILTER + culprit;
            }
            int rightBs = state.right.firstsOf(c);
            if (rightBs == 0) {
                return NO_RIGHT_ROW;
            }
            culprit = emptyingFilter(RIGHT_STAGE, rightBs, a, c);
            if (culprit != NONE) {
                return FILTER + culprit;
            }
            int joined = survivors(LEFT_STAGE, leftBs, a, c) & survivors(RIGHT_STAGE, rightBs, a, c);
            if (joined == 0) {
                return NO_JOIN;
            }
            culprit = emptyingFilter(JOIN_STAGE, joined, a, c);
            return culprit != NONE ? FILTER + culprit : PRESENT;
        }

        /** The first filter of the stage after which none of these values b is left, or NONE. */
        private int emptyingFilter(int stage, int bs, int a, int c) {
            int left = bs;
            for (int i = 0; i < state.filters.size; i++) {
                if (state.filters.isAtStage(i, stage)) {
                    left = acceptedBs(i, left, a, c);
                    if (left == 0) {
                        return i;
                    }
                }
            }
            return NONE;
        }

        private int survivors(int stage, int bs, int a, int c) {
            int left = bs;
            for (int i = 0; i < state.filters.size; i++) {
                if (state.filters.isAtStage(i, stage)) {
                    left = acceptedBs(i, left, a, c);
                }
            }
            return left;
        }

        private int acceptedBs(int index, int bs, int a, int c) {
            int accepted = 0;
            for (int b = 0; b < VALUES; b++) {
                if (isIn(bs, b) && state.filters.accepts(index, a, b, c)) {
                    accepted |= 1 << b;
                }
            }
            return accepted;
        }

        /** A smallest removal lets one b through, so it is just the set of filters against that b. */
        int smallestRemoval(int a, int c) {
            int joined = joinedBs(a, c);
            int best = NONE;
            for (int b = 0; b < VALUES; b++) {
                if (isIn(joined, b)) {
                    int rejecters = state.filters.rejecters(a, b, c);
                    if (best == NONE || isSmallerSet(rejecters, best)) {
                        best = rejecters;
                    }
                }
            }
            return best;
        }

        private static boolean isSmallerSet(int one, int other) {
            int difference = Integer.bitCount(one) - Integer.bitCount(other);
            return difference < 0 || (difference == 0 && one < other);
        }

        int nearestConstant(int a, int c, int index) {
            int current = state.filters.constantAt(index);
            int bs = bsAcceptedByOthers(a, c, index);
            int farthest = GREATEST_JOIN_CONSTANT - LEAST_JOIN_CONSTANT;
            for (int distance = 0; distance <= farthest; distance++) {
                if (isRepair(current - distance, index, bs, a, c)) {
                    return current - distance;
                }
                if (isRepair(current + distance, index, bs, a, c)) {
                    return current + distance;
                }
            }
            return NONE;
        }

        private int bsAcceptedByOthers(int a, int c, int index) {
            int joined = joinedBs(a, c);
            int accepted = 0;
            for (int b = 0; b < VALUES; b++) {
                if (isIn(joined, b) && (state.filters.rejecters(a, b, c) & ~(1 << index)) == 0) {
                    accepted |= 1 << b;
                }
            }
            return accepted;
        }

        private boolean isRepair(int constant, int index, int bs, int a, int c) {
            if (!state.filters.mayHaveConstant(index, constant)) {
                return false;
            }
            for (int b = 0; b < VALUES; b++) {
                if (isIn(bs, b) && state.filters.acceptsWith(constant, index, a, b, c)) {
                    return true;
                }
            }
            return false;
        }

        /** The smallest possible b with the smallest cost, or NONE if no b is possible. */
        int cheapestB(int a, int c) {
            int best = NONE;
            int bestCost = 0;
            for (int b = 0; b < VALUES; b++) {
                if (state.filters.rejecters(a, b, c) == 0) {
                    int cost = costOf(a, b, c);
                    if (best == NONE || cost < bestCost) {
                        best = b;
                        bestCost = cost;
                    }
                }
            }
            return best;
        }

        private int costOf(int a, int b, int c) {
            return (state.left.holds(a, b) ? 0 : 1) + (state.right.holds(b, c) ? 0 : 1);
        }

        int lowestCost(int a, int c) {
            int b = cheapestB(a, c);
            return b == NONE ? NONE : costOf(a, b, c);
        }

        int bToInsert(int a, int c) {
            int b = cheapestB(a, c);
            return b == NONE || costOf(a, b, c) == 0 ? NONE : b;
        }

        int countSatisfiedWishes() {
            int count = 0;
            for (int i = 0; i < state.wishes.size; i++) {
                if (countMatches(state.wishes.firstAt(i), state.wishes.secondAt(i)) > 0) {
                    count++;
                }
            }
            return count;
        }

        int smallestRemovalForWishes() {
            listWishRejecters();
            int best = NONE;
            int sets = 1 << Math.min(state.filters.size, MAX_FILTERS);
            for (int removal = 0; removal < sets; removal++) {
                if ((best == NONE || isSmallerSet(removal, best)) && grantsWishes(removal)) {
                    best = removal;
                }
            }
            return best;
        }

        private void listWishRejecters() {
            for (int i = 0; i < state.wishes.size && i < MAX_WISHES; i++) {
                int a = state.wishes.firstAt(i);
                int c = state.wishes.secondAt(i);
                int joined = joinedBs(a, c);
                for (int b = 0; b < VALUES; b++) {
                    wishRejecters[VALUES * i + b] = isIn(joined, b) ? state.filters.rejecters(a, b, c) : NONE;
                }
            }
        }

        private boolean grantsWishes(int removal) {
            for (int i = 0; i < state.wishes.size && i < MAX_WISHES; i++) {
                if (!grantsWish(i, removal)) {
                    return false;
                }
            }
            return true;
        }

        private boolean grantsWish(int wish, int removal) {
            for (int b = 0; b < VALUES; b++) {
                int rejecters = wishRejecters[VALUES * wish + b];
                if (rejecters != NONE && (rejecters & ~removal) == 0) {
                    return true;
                }
            }
            return false;
        }
    }

    /** The text buffer. */
    private static final class Text {
        private static final int END = -1;

        private final int[] bytes = new int[MAX_TEXT];
        private int length;

        int put(int value) {
            if (value < 0 || value > MAX_BYTE) {
                return INVALID;
            }
            if (length >= MAX_TEXT) {
                return FULL;
            }
            bytes[length] = value;
            length++;
            return length;
        }

        int empty() {
            int previous = length;
            length = 0;
            return previous;
        }

        /** The byte at this position, or END, which no byte equals. */
        int byteAt(int position) {
            return position >= 0 && position < length ? bytes[position] : END;
        }
    }

    /** The commands that the text buffer held when it was last parsed. */
    private static final class Script {
        /** The shortest command, a letter and a semicolon, takes two bytes. */
        private static final int MAX_COMMANDS = MAX_TEXT / 2;
        private static final int MAX_NUMBERS = 4;

        private final Text text = new Text();
        private final int[] letters = new int[MAX_COMMANDS];
        private final int[] numbers = new int[MAX_COMMANDS * MAX_NUMBERS];
        private int size;
        private int position;

        int letter(int command) {
            return command >= 0 && command < size ? letters[command] : Text.END;
        }

        int number(int command, int place) {
            if (command < 0 || command >= size || place < 0 || place >= MAX_NUMBERS) {
                return 0;
            }
            return numbers[MAX_NUMBERS * command + place];
        }

        /** Reads the whole text; if it is no script, position is where that shows first. */
        boolean parse() {
            size = 0;
            position = 0;
            skipSpaces();
            for (int command = 0; command < MAX_COMMANDS; command++) {
                if (!readCommand()) {
                    return false;
                }
                skipSpaces();
                if (position >= text.length) {
                    return true;
                }
            }
            return false;
        }

        private void skipSpaces() {
            while (position < text.length && text.byteAt(position) == ' ') {
                position++;
            }
        }

        private boolean readCommand() {
            int letter = text.byteAt(position);
            int wanted = numbersBehind(letter);
            if (wanted == NONE || size >= MAX_COMMANDS) {
                return false;
            }
            position++;
            letters[size] = letter;
            for (int place = 0; place < wanted; place++) {
                skipSpaces();
                boolean maySign = letter == 'f' && place == MAX_NUMBERS - 1;
                if (!readNumber(MAX_NUMBERS * size + place, maySign)) {
                    return false;
                }
            }
            skipSpaces();
            if (text.byteAt(position) != ';') {
                return false;
            }
            position++;
            size++;
            return true;
        }

        private static int numbersBehind(int letter) {
            switch (letter) {
                case 'l':
                case 'r':
                case 'w':
                    return 2;
                case 'f':
                    return 4;
                case 'x':
                    return 1;
                case 'e':
                    return 0;
                default:
                    return NONE;
            }
        }

        private boolean readNumber(int slot, boolean maySign) {
            boolean negative = maySign && text.byteAt(position) == '-';
            if (negative) {
                position++;
            }
            if (!isDigit(text.byteAt(position))) {
                return false;
            }
            int value = text.byteAt(position) - '0';
            position++;
            if (isDigit(text.byteAt(position))) {
                value = 10 * value + text.byteAt(position) - '0';
                position++;
            }
            if (slot >= 0 && slot < numbers.length) {
                numbers[slot] = negative ? -value : value;
            }
            // A third digit would otherwise pass as the first digit of the next number.
            return !isDigit(text.byteAt(position));
        }

        private static boolean isDigit(int value) {
            return value >= '0' && value <= '9';
        }
    }
}
