/**
 * Tests of some of the document's sentences, with what they share: checks of what a call leaves behind. Each of
 * these makes its objects anew, because looking into one (undo, clearWishes, runScript) changes it, and because
 * the document promises nothing beyond 512 calls of one object.
 */
abstract class SentenceGroup {
    static final int NONE = -10001, INVALID = -10002, REJECTED = -10003, FULL = -10004;
    static final int MIN = Integer.MIN_VALUE, MAX = Integer.MAX_VALUE;
    private static final int MAX_SAVED = 5;
    private static final int KINDS = 3;
    /** Where the number of saved states stands among the values of digest(). */
    private static final int SAVED_PLACE = 4;

    /** Makes an object in one and the same state each time. */
    interface Setup {
        WhyNotJoin make();
    }

    interface Call {
        int on(WhyNotJoin x);
    }

    interface ArgumentCall {
        int on(WhyNotJoin x, int argument);
    }

    interface PairCall {
        int on(WhyNotJoin x, int first, int second);
    }

    private final Sentences sentences;

    SentenceGroup(Sentences sentences) {
        this.sentences = sentences;
    }

    abstract void run();

    final void place(String name) {
        sentences.place(name);
    }

    final void sentence(String words, Runnable test) {
        sentences.test(words, test);
    }

    final void due(String call, long due, long got) {
        sentences.due(call, due, got);
    }

    /** The call answers this error code and counts it once; all else is as it was before. */
    final void refused(int code, String name, Setup state, Call call) {
        WhyNotJoin x = state.make();
        int[] more = new int[SAVED_PLACE + 1];
        int[] before = counters(x);
        due(name, code, call.on(x));
        more[INVALID - code] = 1;
        int[] after = counters(x);
        for (int kind = 0; kind < KINDS; kind++) {
            due("errorCount(" + kind + ") after " + name, before[kind] + more[kind], after[kind]);
        }
        sameAsBefore("after " + name, state, x, more);
    }

    final void refusedInAll(int code, String name, Call call, Setup... states) {
        for (Setup state : states) {
            refused(code, name, state, call);
        }
    }

    /** The call gives this answer and leaves all as it was before, the counters too. */
    final void onlyAnswers(int answer, String name, Setup state, Call call) {
        WhyNotJoin x = state.make();
        due(name, answer, call.on(x));
        sameAsBefore("after " + name, state, x, new int[SAVED_PLACE + 1]);
    }

    /** The call gives this answer, and one undo() takes back all that it did. */
    final void undoable(int answer, String name, Setup state, Call call) {
        WhyNotJoin x = state.make();
        due(name, answer, call.on(x));
        int saved = savedIn(state);
        int left = Math.min(saved, MAX_SAVED - 1);
        due("undo() after " + name, left, x.undo());
        int[] more = new int[SAVED_PLACE + 1];
        more[SAVED_PLACE] = left - saved;
        sameAsBefore("after " + name + " and undo()", state, x, more);
    }

    /** undoable() with every number of saved states, from none to as many as the stack keeps. */
    final void undoableAtEveryDepth(int answer, String name, Setup state, Call call) {
        undoable(answer, name, state, call);
        for (int saved = 0; saved <= MAX_SAVED; saved++) {
            int depth = saved;
            undoable(answer, name + " with " + depth + " saved states", () -> States.withSaved(depth, state.make()), call);
        }
    }

    /** Every argument from low to high is in range, and those beyond both ends are INVALID. */
    final void range(String argument, int low, int high, Setup state, ArgumentCall call) {
        for (int value = low; value <= high; value++) {
            inRange(argument, value, state, call);
        }
        for (int value : new int[] {low - 1, high + 1, MIN, MAX}) {
            refused(INVALID, argument + " = " + value, state, x -> call.on(x, value));
        }
    }

    /** Every argument from 0 on is in range. */
    final void zeroOrMore(String argument, Setup state, ArgumentCall call) {
        for (int value : new int[] {0, 1, 9, 10, 11, 99, 100, MAX - 1, MAX}) {
            inRange(argument, value, state, call);
        }
        for (int value : new int[] {-1, MIN}) {
            refused(INVALID, argument + " = " + value, state, x -> call.on(x, value));
        }
    }

    private void inRange(String argument, int value, Setup state, ArgumentCall call) {
        WhyNotJoin x = state.make();
        int before = x.errorCount(0);
        due(argument + " = " + value + " is INVALID", 0, call.on(x, value) == INVALID ? 1 : 0);
        due("errorCount(0) after " + argument + " = " + value, before, x.errorCount(0));
    }

    /** The arguments a and c, or the like, each of 0 to 9; with the other one also wrong it is still one error. */
    final void pairOutOfRange(String name, PairCall call, Setup... states) {
        int[][] wrong = {{-1, 0}, {0, -1}, {10, 9}, {9, 10}, {-1, 10}, {10, -1}, {MIN, 5}, {5, MIN}, {MAX, 5}, {5, MAX}};
        for (int[] pair : wrong) {
            refusedInAll(INVALID, name + "(" + pair[0] + ", " + pair[1] + ")", x -> call.on(x, pair[0], pair[1]), states);
        }
    }

    /** The call takes the index of one of size elements. */
    final void indexOfExisting(String name, int size, Setup state, ArgumentCall call) {
        range(name + " of " + size, 0, size - 1, state, call);
    }

    private static int[] counters(WhyNotJoin x) {
        return new int[] {x.errorCount(0), x.errorCount(1), x.errorCount(2)};
    }

    /** x is as the state makes it, in all its saved states too, but for the first values of digest() given here. */
    private void sameAsBefore(String when, Setup state, WhyNotJoin x, int[] more) {
        WhyNotJoin y = state.make();
        int levels = savedIn(state) + more[SAVED_PLACE];
        for (int level = 0; level <= levels; level++) {
            if (level > 0) {
                due("undo() " + when, y.undo() + more[SAVED_PLACE], x.undo());
            }
            sameNow(when + ", undone " + level + " times", x, y, wishesIn(state, level), more);
        }
        due("undo() of the empty stack " + when, REJECTED, x.undo());
        due("runScript() " + when, y.runScript(), x.runScript());
        due("clearText() " + when, y.clearText(), x.clearText());
    }

    private void sameNow(String when, WhyNotJoin x, WhyNotJoin y, int wishes, int[] more) {
        int rows = 0;
        for (int i = 0; i < 10; i++) {
            int left = y.leftRow(i);
            int right = y.rightRow(i);
            due("leftRow(" + i + ") " + when, left, x.leftRow(i));
            due("rightRow(" + i + ") " + when, right, x.rightRow(i));
            rows += (left == NONE ? 0 : 1) + (right == NONE ? 0 : 1);
        }
        int filters = y.filterCount();
        due("filterCount() " + when, filters, x.filterCount());
        for (int i = 0; i < filters; i++) {
            due("constant(" + i + ") " + when, y.constant(i), x.constant(i));
        }
        int answers = y.answerCount();
        due("answerCount() " + when, answers, x.answerCount());
        int values = SAVED_PLACE + 1 + 6 + rows + 5 * filters + answers + 5 * wishes;
        long digest = y.digest();
        for (int i = 0; i < more.length; i++) {
            digest += more[i] * power(values - 1 - i);
        }
        due("digest() " + when, digest, x.digest());
    }

    /** What one more in a value of digest() adds to it, if so many values come after. */
    private static long power(int after) {
        long power = 1;
        for (int i = 0; i < after; i++) {
            power *= 31;
        }
        return power;
    }

    private static int savedIn(Setup state) {
        WhyNotJoin z = state.make();
        int saved = 0;
        while (saved < 100 && z.undo() != REJECTED) {
            saved++;
        }
        return saved;
    }

    private static int wishesIn(Setup state, int undone) {
        WhyNotJoin z = state.make();
        for (int i = 0; i < undone; i++) {
            z.undo();
        }
        return z.clearWishes();
    }
}
