import java.math.BigInteger;

/** ERRORS, UNDO, the constants and promises 31 to 33. */
final class UndoSentences extends SentenceGroup {
    private static final int JOIN = 2;

    /** A call that is to fail, the state in which it does, and its error. */
    private record Failure(int code, String name, Setup state, Call call) { }

    UndoSentences(Sentences sentences) {
        super(sentences);
    }

    @Override
    void run() {
        place("ERRORS");
        errors();
        precedence();
        place("UNDO");
        saving();
        place("CONSTANTS");
        constants();
        place("Promise 31");
        undo();
        place("Promise 32");
        errorCount();
        place("Promise 33");
        digest();
    }

    // ---- ERRORS

    private static final Failure[] FAILURES = {
        new Failure(INVALID, "addLeft(10, 0)", States::busy, x -> x.addLeft(10, 0)),
        new Failure(INVALID, "addRight(0, -1)", States::busy, x -> x.addRight(0, -1)),
        new Failure(INVALID, "removeLeft(3)", States::busy, x -> x.removeLeft(3)),
        new Failure(INVALID, "removeRight(-1)", States::busy, x -> x.removeRight(-1)),
        new Failure(INVALID, "leftRow(-1)", States::busy, x -> x.leftRow(-1)),
        new Failure(INVALID, "rightRow(-1)", States::busy, x -> x.rightRow(-1)),
        new Failure(INVALID, "addFilter(3, 0, 0, 0)", States::busy, x -> x.addFilter(3, 0, 0, 0)),
        new Failure(INVALID, "removeFilter(3)", States::busy, x -> x.removeFilter(3)),
        new Failure(INVALID, "setConstant(0, 10)", States::busy, x -> x.setConstant(0, 10)),
        new Failure(INVALID, "constant(3)", States::busy, x -> x.constant(3)),
        new Failure(INVALID, "acceptedBy(3)", States::busy, x -> x.acceptedBy(3)),
        new Failure(INVALID, "answer(-1)", States::busy, x -> x.answer(-1)),
        new Failure(INVALID, "matchCount(10, 0)", States::busy, x -> x.matchCount(10, 0)),
        new Failure(INVALID, "blame(0, 10)", States::busy, x -> x.blame(0, 10)),
        new Failure(INVALID, "filtersToRemove(-1, 0)", States::busy, x -> x.filtersToRemove(-1, 0)),
        new Failure(INVALID, "repairedConstant(1, 5, 3)", States::busy, x -> x.repairedConstant(1, 5, 3)),
        new Failure(INVALID, "missingRows(0, -1)", States::busy, x -> x.missingRows(0, -1)),
        new Failure(INVALID, "missingB(10, 10)", States::busy, x -> x.missingB(10, 10)),
        new Failure(INVALID, "insertMissing(-1, 5)", States::busy, x -> x.insertMissing(-1, 5)),
        new Failure(INVALID, "loosen(1, 10)", States::busy, x -> x.loosen(1, 10)),
        new Failure(INVALID, "addWish(1, 10)", States::busy, x -> x.addWish(1, 10)),
        new Failure(INVALID, "append(128)", States::busy, x -> x.append(128)),
        new Failure(INVALID, "errorCount(3)", States::busy, x -> x.errorCount(3)),
        new Failure(REJECTED, "addLeft(1, 2)", States::busy, x -> x.addLeft(1, 2)),
        new Failure(REJECTED, "addRight(2, 5)", States::busy, x -> x.addRight(2, 5)),
        new Failure(REJECTED, "insertMissing(1, 6)", States::busy, x -> x.insertMissing(1, 6)),
        new Failure(REJECTED, "loosen(4, 9)", States::busy, x -> x.loosen(4, 9)),
        new Failure(REJECTED, "addWish(1, 5)", States::busy, x -> x.addWish(1, 5)),
        new Failure(REJECTED, "undo()", States::fresh, WhyNotJoin::undo),
        new Failure(FULL, "addLeft(0, 1)", States::full, x -> x.addLeft(0, 1)),
        new Failure(FULL, "addRight(0, 1)", States::full, x -> x.addRight(0, 1)),
        new Failure(FULL, "addFilter(0, 0, 0, 0)", States::full, x -> x.addFilter(0, 0, 0, 0)),
        new Failure(FULL, "insertMissing(0, 1)", States::full, x -> x.insertMissing(0, 1)),
        new Failure(FULL, "addWish(9, 9)", States::full, x -> x.addWish(9, 9)),
        new Failure(FULL, "append(0)", States::full, x -> x.append(0)),
    };

    private void allFailures(int code) {
        for (Failure failure : FAILURES) {
            if (failure.code == code) {
                refused(code, failure.name, failure.state, failure.call);
            }
        }
    }

    private void errors() {
        sentence("A method that fails returns an error code and changes nothing except the counter of that error", () -> {
            for (int code : new int[] {INVALID, REJECTED, FULL}) {
                allFailures(code);
            }
        });
        sentence("Each failing call increments one counter", () -> {
            for (Failure failure : FAILURES) {
                WhyNotJoin x = failure.state.make();
                int before = x.errorCount(0) + x.errorCount(1) + x.errorCount(2);
                failure.call.on(x);
                failure.call.on(x);
                due("all errors after two calls of " + failure.name, before + 2,
                        x.errorCount(0) + x.errorCount(1) + x.errorCount(2));
                due("errors of its kind", 2,
                        x.errorCount(INVALID - failure.code) - failure.state.make().errorCount(INVALID - failure.code));
            }
        });
        sentence("INVALID means that an argument is out of range", () -> allFailures(INVALID));
        sentence("REJECTED means that the arguments are in range but the current state does not allow the call",
                () -> allFailures(REJECTED));
        sentence("FULL means that a capacity would be exceeded", () -> allFailures(FULL));
    }

    /** Full tables of which a filter rejects every left row with a = 9. */
    private static WhyNotJoin fullAndImpossible() {
        WhyNotJoin x = States.fullTables();
        x.addFilter(0, 0, 3, 9);
        return x;
    }

    private void precedence() {
        sentence("it is checked before anything else", () -> {
            refused(INVALID, "addLeft(0, 10), full", States::full, x -> x.addLeft(0, 10));
            refused(INVALID, "addRight(-1, 0), full", States::full, x -> x.addRight(-1, 0));
            refused(INVALID, "addFilter(0, 0, 0, 10), full", States::full, x -> x.addFilter(0, 0, 0, 10));
            refused(INVALID, "addWish(0, 10), full", States::full, x -> x.addWish(0, 10));
            refused(INVALID, "append(-1), full", States::full, x -> x.append(-1));
            refused(INVALID, "insertMissing(9, 10), impossible, full", UndoSentences::fullAndImpossible,
                    x -> x.insertMissing(9, 10));
            refused(INVALID, "loosen(10, 0), not to be removed", States::fresh, x -> x.loosen(10, 0));
            refused(INVALID, "setConstant(0, 19), no filter", States::fresh, x -> x.setConstant(0, 19));
        });
        sentence("If two errors apply, INVALID comes before REJECTED and REJECTED before FULL", () -> {
            refused(INVALID, "addLeft(9, 19), as row (10, 9) or (1, 9)", States::full, x -> x.addLeft(9, 19));
            refused(INVALID, "insertMissing(9, 10)", UndoSentences::fullAndImpossible, x -> x.insertMissing(9, 10));
            for (int i = 0; i < 10; i++) {
                int v = i;
                refused(REJECTED, "addLeft of a row, full", States::full, x -> x.addLeft(v, v));
                refused(REJECTED, "addRight of a row, full", States::full, x -> x.addRight(v, v));
            }
            refused(REJECTED, "addWish(1, 2), full", States::full, x -> x.addWish(1, 2));
            refused(REJECTED, "addWish(0, 0), full", States::full, x -> x.addWish(0, 0));
            refused(REJECTED, "insertMissing(9, 0), impossible, full", UndoSentences::fullAndImpossible,
                    x -> x.insertMissing(9, 0));
        });
        sentence("NONE is returned only if no error applies", () -> {
            refused(INVALID, "leftRow(-1) of none", States::fresh, x -> x.leftRow(-1));
            refused(INVALID, "rightRow(-1) of none", States::fresh, x -> x.rightRow(-1));
            refused(INVALID, "answer(-1) of none", States::fresh, x -> x.answer(-1));
            refused(INVALID, "filtersToRemove(0, 10)", States::fresh, x -> x.filtersToRemove(0, 10));
            refused(INVALID, "repairedConstant(0, 0, 0), no filter", States::fresh, x -> x.repairedConstant(0, 0, 0));
            refused(INVALID, "repairedConstant(10, 0, 0), not to be repaired", States::busy, x -> x.repairedConstant(10, 0, 0));
            refused(INVALID, "missingRows(9, 10), impossible", UndoSentences::fullAndImpossible, x -> x.missingRows(9, 10));
            refused(INVALID, "missingB(9, -1), impossible", UndoSentences::fullAndImpossible, x -> x.missingB(9, -1));
            onlyAnswers(NONE, "leftRow(0) of none", States::fresh, x -> x.leftRow(0));
            onlyAnswers(NONE, "missingRows(9, 0), impossible", UndoSentences::fullAndImpossible, x -> x.missingRows(9, 0));
        });
    }

    // ---- UNDO

    /** The calls that leave the full state unchanged although they are undoable, by number. */
    private static int unchanging(WhyNotJoin x, int kind) {
        switch (kind) {
            case 0: return x.setConstant(5, 8);
            case 1: return x.insertMissing(9, 9);
            default: return x.loosen(9, 9);
        }
    }

    private void saving() {
        sentence("The state consists of both tables, the filters and the wish list", () -> {
            undoable(9, "removeLeft(4)", States::full, x -> x.removeLeft(4));
            undoable(9, "removeRight(4)", States::full, x -> x.removeRight(4));
            undoable(5, "removeFilter(2)", States::full, x -> x.removeFilter(2));
            undoable(18, "setConstant(2, 17)", States::full, x -> x.setConstant(2, 17));
            undoable(4, "clearWishes()", States::full, WhyNotJoin::clearWishes);
            undoable(6, "all of them in one step", () -> withText(States.busy(), "l0 0;r0 0;x1;f2 0 0 0;e;w0 0;"),
                    WhyNotJoin::runScript);
        });
        sentence("Every method that is marked \"undoable\" saves the state on an undo stack when it succeeds, also if it leaves"
                + " the state unchanged", () -> {
            int[] answers = {8, 0, 0};
            for (int i = 0; i < answers.length; i++) {
                int kind = i;
                undoableAtEveryDepth(answers[i], "unchanging call " + i, States::full, x -> unchanging(x, kind));
            }
            undoableAtEveryDepth(0, "clearWishes() of none", States::fresh, WhyNotJoin::clearWishes);
            undoableAtEveryDepth(1, "a script of 'e;'", () -> States.withText("e;"), WhyNotJoin::runScript);
            othersSaveNothing();
        });
        sentence("The stack keeps the latest 5 saved states and drops older ones", () -> {
            for (int calls = 0; calls <= 9; calls++) {
                WhyNotJoin x = States.withLeftRows(calls, new WhyNotJoin());
                int kept = Math.min(calls, 5);
                for (int left = kept - 1; left >= 0; left--) {
                    due("undo() after " + calls + " calls", left, x.undo());
                    due("the row taken back", NONE, x.leftRow(calls - kept + left));
                    if (calls - kept + left > 0) {
                        due("the row before it", 11 * (calls - kept + left - 1), x.leftRow(calls - kept + left - 1));
                    }
                }
                due("undo() of the empty stack", REJECTED, x.undo());
                due("the rows that stay", calls - kept > 0 ? 11 * (calls - kept - 1) : NONE, x.leftRow(Math.max(calls - kept - 1, 0)));
            }
            manyRounds();
        });
        sentence("The text buffer and the error counters are not part of the state", () -> {
            WhyNotJoin x = States.busy();
            x.append('e');
            x.leftRow(-1);
            x.addLeft(1, 2);
            x.undo();
            due("errorCount(0) after undo", 2, x.errorCount(0));
            due("errorCount(1) after undo", 2, x.errorCount(1));
            due("clearText() after undo", 11, x.clearText());
            x.undo();
            due("clearText() is not taken back", 0, x.clearText());
            WhyNotJoin y = States.full();
            y.append(0);
            y.undo();
            due("errorCount(2) after undo", 1, y.errorCount(2));
        });
    }

    private static WhyNotJoin withText(WhyNotJoin x, String text) {
        x.clearText();
        States.type(x, text);
        return x;
    }

    private void othersSaveNothing() {
        onlyAnswers(8, "answerCount()", States::full, WhyNotJoin::answerCount);
        onlyAnswers(NONE, "filtersToRemoveForWishes()", States::full, WhyNotJoin::filtersToRemoveForWishes);
        onlyAnswers(0, "errorCount(0)", States::full, x -> x.errorCount(0));
        WhyNotJoin x = States.full();
        long digest = x.digest();
        due("digest() again", digest, x.digest());
        x.clearText();
        x.append('e');
        due("undo(), neither append nor clearText is saved", 4, x.undo());
        due("undo(), undo is not saved", 3, x.undo());
    }

    /** The stack is filled and emptied again and again, so that each place of it is used in each way. */
    private void manyRounds() {
        WhyNotJoin x = States.withSaved(0, States.withFilters(1, new WhyNotJoin()));
        int constant = x.constant(0);
        for (int round = 1; round <= 14; round++) {
            int calls = 1 + round % 7;
            int[] constants = new int[calls + 1];
            constants[0] = constant;
            for (int i = 1; i <= calls; i++) {
                constants[i] = (7 * round + 5 * i) % 28 - 9;
                x.setConstant(0, constants[i]);
            }
            int kept = Math.min(calls, 5);
            for (int undone = 1; undone <= kept; undone++) {
                due("undo() in round " + round, kept - undone, x.undo());
                due("constant(0) in round " + round, constants[calls - undone], x.constant(0));
            }
            due("undo() of the empty stack in round " + round, REJECTED, x.undo());
            constant = constants[calls - kept];
            due("constant(0) after it", constant, x.constant(0));
        }
    }

    // ---- constants

    private void constants() {
        sentence("`NONE = -10001`: Returned where there is no such value", () -> {
            due("NONE", -10001, WhyNotJoin.NONE);
            due("leftRow(0)", -10001, States.fresh().leftRow(0));
        });
        sentence("`INVALID = -10002`: An argument is out of range", () -> {
            due("INVALID", -10002, WhyNotJoin.INVALID);
            due("leftRow(-1)", -10002, States.fresh().leftRow(-1));
        });
        sentence("`REJECTED = -10003`: The current state does not allow the call", () -> {
            due("REJECTED", -10003, WhyNotJoin.REJECTED);
            due("undo()", -10003, States.fresh().undo());
        });
        sentence("`FULL = -10004`: A capacity would be exceeded", () -> {
            due("FULL", -10004, WhyNotJoin.FULL);
            due("append(0)", -10004, States.full().append(0));
        });
        sentence("`NO_LEFT_ROW = 0, NO_RIGHT_ROW = 1, NO_JOIN = 2, PRESENT = 9, FILTER = 10`: Causes that are told by blame()", () -> {
            due("NO_LEFT_ROW", 0, WhyNotJoin.NO_LEFT_ROW);
            due("NO_RIGHT_ROW", 1, WhyNotJoin.NO_RIGHT_ROW);
            due("NO_JOIN", 2, WhyNotJoin.NO_JOIN);
            due("PRESENT", 9, WhyNotJoin.PRESENT);
            due("FILTER", 10, WhyNotJoin.FILTER);
            due("blame(0, 0) of nothing", 0, States.fresh().blame(0, 0));
            due("blame(1, 9)", 1, States.sample().blame(1, 9));
            due("blame(0, 1)", 2, States.full().blame(0, 1));
            due("blame(0, 0)", 9, States.full().blame(0, 0));
        });
        sentence("a filter with index i is told as FILTER + i", () -> {
            for (int i = 0; i < 6; i++) {
                WhyNotJoin x = States.withFilters(i, States.sample());
                x.addFilter(JOIN, 1, 0, -9);
                due("blame(1, 5)", 10 + i, x.blame(1, 5));
            }
        });
    }

    // ---- promises

    private void undo() {
        sentence("Restores the latest saved state and removes it from the undo stack", () -> {
            WhyNotJoin x = new WhyNotJoin();
            x.addLeft(1, 1);
            x.addRight(2, 2);
            x.addFilter(0, 0, 0, 3);
            x.addWish(4, 4);
            x.undo();
            due("the wish", 1, x.addWish(4, 4));
            x.undo();
            x.undo();
            due("the filter", 0, x.filterCount());
            due("the right row stays", 22, x.rightRow(0));
            x.undo();
            due("the right row", NONE, x.rightRow(0));
            due("the left row stays", 11, x.leftRow(0));
            x.undo();
            due("the left row", NONE, x.leftRow(0));
            due("undo() of the empty stack", REJECTED, x.undo());
            x.addLeft(5, 5);
            x.addLeft(6, 6);
            x.undo();
            x.addLeft(7, 7);
            x.undo();
            due("the row before both", 55, x.leftRow(0));
            due("no second row", NONE, x.leftRow(1));
            x.undo();
            due("no row", NONE, x.leftRow(0));
        });
        sentence("Returns the number of states that are left on the stack", () -> {
            for (int saved = 1; saved <= 5; saved++) {
                WhyNotJoin x = States.withSaved(saved, new WhyNotJoin());
                for (int left = saved - 1; left >= 0; left--) {
                    due("undo() of " + (left + 1), left, x.undo());
                }
            }
            due("undo() after the 6th call", 4, States.sample().undo());
            due("undo() after more calls", 4, States.full().undo());
        });
        sentence("REJECTED if the stack is empty", () -> {
            refused(REJECTED, "undo() of a new object", States::fresh, WhyNotJoin::undo);
            refused(REJECTED, "undo() after the last", () -> States.withSaved(0, States.busy()), WhyNotJoin::undo);
            refused(REJECTED, "undo() of the full state", () -> States.withSaved(0, States.full()), WhyNotJoin::undo);
            due("undo() of the last", 0, States.withSaved(1, States.busy()).undo());
        });
    }

    private void errorCount() {
        sentence("Returns an error counter", () -> {
            onlyAnswers(1, "errorCount(0)", States::busy, x -> x.errorCount(0));
            onlyAnswers(1, "errorCount(1)", States::busy, x -> x.errorCount(1));
            onlyAnswers(0, "errorCount(2)", States::busy, x -> x.errorCount(2));
        });
        sentence("`kind`: 0 for INVALID, 1 for REJECTED, 2 for FULL", () -> {
            range("kind", 0, 2, States::fresh, WhyNotJoin::errorCount);
            WhyNotJoin x = States.full();
            x.append(-1);
            due("errorCount(0) after INVALID", 1, x.errorCount(0));
            x.addLeft(0, 0);
            due("errorCount(1) after REJECTED", 1, x.errorCount(1));
            x.addLeft(0, 1);
            due("errorCount(2) after FULL", 1, x.errorCount(2));
            due("errorCount(0)", 1, x.errorCount(0));
            due("errorCount(1)", 1, x.errorCount(1));
        });
        sentence("Returns the number of failed calls of that kind", () -> {
            WhyNotJoin x = States.fullTables();
            for (int i = 1; i <= 100; i++) {
                x.addLeft(10, 10);
                x.addLeft(0, 0);
                x.addLeft(0, 1);
                if (i == 1 || i >= 99) {
                    due("errorCount(0)", i, x.errorCount(0));
                    due("errorCount(1)", i, x.errorCount(1));
                    due("errorCount(2)", i, x.errorCount(2));
                }
            }
        });
        sentence("INVALID (which is counted, too) if kind is out of range", () -> {
            for (int kind : new int[] {-1, 3, MIN, MAX}) {
                refusedInAll(INVALID, "errorCount(" + kind + ")", x -> x.errorCount(kind), States::fresh, States::busy,
                        States::full);
            }
            WhyNotJoin x = new WhyNotJoin();
            x.errorCount(3);
            x.errorCount(-1);
            due("errorCount(0)", 2, x.errorCount(0));
        });
    }

    private void digest() {
        sentence("Returns a hash of everything that can be observed", () -> {
            long before = States.busy().digest();
            Call[] changes = {
                x -> x.addLeft(0, 0), x -> x.addRight(0, 0), x -> x.removeLeft(0), x -> x.removeRight(0),
                x -> x.addFilter(0, 0, 0, 9), x -> x.removeFilter(2), x -> x.setConstant(2, 1), x -> x.addWish(0, 0),
                WhyNotJoin::clearWishes, x -> x.append('e'), WhyNotJoin::clearText, WhyNotJoin::undo, x -> x.leftRow(-1),
                x -> x.addLeft(1, 2),
            };
            for (int i = 0; i < changes.length; i++) {
                WhyNotJoin x = States.busy();
                changes[i].on(x);
                due("digest() is another after change " + i, 1, x.digest() != before ? 1 : 0);
            }
            due("digest() of the same calls", before, States.busy().digest());
        });
        sentence("It starts with h = 18084", () -> {
            long start = 18084;
            for (int i = 0; i < 11; i++) {
                start *= 31;
            }
            due("digest() of eleven zeros", start, States.fresh().digest());
        });
        sentence("For each of the following values v, in this order, h becomes 31 * h + v (long arithmetic, overflow wraps)",
                this::wraps);
        digestParts();
        sentence("Returns the hash", () -> {
            for (Setup state : new Setup[] {States::fresh, States::busy, States::full}) {
                WhyNotJoin x = state.make();
                long first = x.digest();
                due("digest() again", first, x.digest());
                onlyAnswers(0, "digest()", state, y -> y.digest() == first ? 0 : 1);
            }
        });
    }

    private void wraps() {
        for (int length = 0; length <= 120; length++) {
            BigInteger whole = Hash.whole(0, 0, 0, length, 0, 0, 0, 0, 0, 0, 0);
            due("the whole number is beyond a long", 1, whole.bitLength() > 63 ? 1 : 0);
            due("digest() with " + length + " bytes", whole.longValue(), States.withText("e".repeat(length)).digest());
        }
        long[] rows = {0, 11, 22, 33, 44, 55, 66, 77, 88, 99};
        for (int left = 0; left <= 10; left++) {
            long[] values = new long[11 + left];
            values[4] = Math.min(left, 5);
            values[5] = left;
            System.arraycopy(rows, 0, values, 6, left);
            due("digest() with " + left + " left rows", Hash.of(values), States.withLeftRows(left, new WhyNotJoin()).digest());
        }
    }

    private void digestParts() {
        sentence("errorCount(0), errorCount(1), errorCount(2), the length of the text buffer, the number of states on the undo"
                + " stack", () -> {
            WhyNotJoin x = new WhyNotJoin();
            for (int i = 0; i < 7; i++) {
                x.clearWishes();
            }
            due("five saved states", Hash.of(0, 0, 0, 0, 5, 0, 0, 0, 0, 0, 0), x.digest());
            for (int i = 0; i < 123; i++) {
                x.append(i);
            }
            due("three FULL and 120 bytes", Hash.of(0, 0, 3, 120, 5, 0, 0, 0, 0, 0, 0), x.digest());
            x.append(-1);
            x.loosen(1, 1);
            x.loosen(1, 1);
            x.undo();
            due("one INVALID, two REJECTED, four saved states", Hash.of(1, 2, 3, 120, 4, 0, 0, 0, 0, 0, 0), x.digest());
            x.clearText();
            due("no text", Hash.of(1, 2, 3, 0, 4, 0, 0, 0, 0, 0, 0), x.digest());
        });
        sentence("the number of left rows, each left row as leftRow(), the number of right rows, each right row as rightRow()",
                () -> {
            WhyNotJoin x = new WhyNotJoin();
            x.addLeft(9, 0);
            x.addLeft(0, 9);
            x.addRight(3, 7);
            due("rows as they were added", Hash.of(0, 0, 0, 0, 3, 2, 90, 9, 1, 37, 0, 0, 0, 0), x.digest());
            WhyNotJoin y = new WhyNotJoin();
            y.addLeft(0, 9);
            y.addLeft(9, 0);
            y.addRight(3, 7);
            due("the other order", Hash.of(0, 0, 0, 0, 3, 2, 9, 90, 1, 37, 0, 0, 0, 0), y.digest());
            due("full tables", Hash.of(0, 0, 0, 0, 5, 10, 0, 11, 22, 33, 44, 55, 66, 77, 88, 99,
                    10, 0, 11, 22, 33, 44, 55, 66, 77, 88, 99, 0, 10, 0, 11, 22, 33, 44, 55, 66, 77, 88, 99, 0, 0),
                    States.fullTables().digest());
        });
        sentence("filterCount(), and for each filter its stage, column, operator, constant and acceptedBy()", () -> {
            WhyNotJoin x = new WhyNotJoin();
            x.addLeft(1, 2);
            x.addFilter(0, 1, 2, 3);
            x.addFilter(2, 0, 3, -9);
            x.addFilter(0, 0, 0, 1);
            x.addFilter(1, 1, 1, 9);
            x.addFilter(2, 2, 0, 18);
            x.addFilter(0, 0, 1, 0);
            due("six filters", Hash.of(0, 0, 0, 0, 5, 1, 12, 0, 6, 0, 1, 2, 3, 0, 2, 0, 3, -9, 0, 0, 0, 0, 1, 1,
                    1, 1, 1, 9, 0, 2, 2, 0, 18, 0, 0, 0, 1, 0, 1, 0, 0, 0), x.digest());
        });
        sentence("answerCount(), each element of the result as answer()", () -> {
            WhyNotJoin x = new WhyNotJoin();
            x.addLeft(9, 1);
            x.addLeft(0, 1);
            x.addLeft(0, 2);
            x.addRight(1, 9);
            x.addRight(2, 9);
            due("two pairs by three matches", Hash.of(0, 0, 0, 0, 5, 3, 91, 1, 2, 2, 19, 29, 0, 2, 9, 99, 0, 0), x.digest());
        });
        sentence("the number of wishes, and for each wish in the order of the list 10 * a + c, blame(), filtersToRemove(),"
                + " missingRows() and missingB()", () -> {
            WhyNotJoin x = new WhyNotJoin();
            x.addFilter(2, 2, 3, 7);
            x.addLeft(9, 7);
            x.addRight(7, 9);
            x.addRight(4, 0);
            x.addWish(9, 9);
            x.addWish(0, 0);
            x.addWish(9, 1);
            x.addWish(9, 0);
            due("four wishes", Hash.of(0, 0, 0, 0, 5, 1, 97, 2, 79, 40, 1, 2, 2, 3, 7, 0, 0,
                    4, 99, 10, 1, 2, 0, 0, 0, NONE, 1, 4, 91, 1, NONE, 2, 0, 90, 2, NONE, 1, 4, NONE), x.digest());
            WhyNotJoin y = States.fullTables();
            y.addWish(9, 9);
            long[] values = {0, 0, 0, 0, 5, 10, 0, 11, 22, 33, 44, 55, 66, 77, 88, 99, 10, 0, 11, 22, 33, 44, 55, 66, 77, 88, 99,
                0, 10, 0, 11, 22, 33, 44, 55, 66, 77, 88, 99, 1, 99, 9, 0, 0, NONE, 0};
            due("a wish that is present", Hash.of(values), y.digest());
        });
        sentence("filtersToRemoveForWishes()", () -> {
            WhyNotJoin x = new WhyNotJoin();
            x.addLeft(1, 2);
            x.addRight(2, 5);
            x.addFilter(2, 1, 3, 6);
            x.addFilter(2, 1, 3, 6);
            due("no wishes: 0", Hash.of(0, 0, 0, 0, 4, 1, 12, 1, 25, 2, 2, 1, 3, 6, 0, 2, 1, 3, 6, 0, 0, 0, 0), x.digest());
            x.addWish(1, 5);
            due("the set 3", Hash.of(0, 0, 0, 0, 5, 1, 12, 1, 25, 2, 2, 1, 3, 6, 0, 2, 1, 3, 6, 0, 0,
                    1, 15, 10, 3, NONE, NONE, 3), x.digest());
            x.addWish(1, 6);
            due("NONE", Hash.of(0, 0, 0, 0, 5, 1, 12, 1, 25, 2, 2, 1, 3, 6, 0, 2, 1, 3, 6, 0, 0,
                    2, 15, 10, 3, NONE, NONE, 16, 1, NONE, 1, 2, NONE), x.digest());
        });
    }
}
