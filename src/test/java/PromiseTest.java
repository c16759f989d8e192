/** For each promise of the document: ordinary inputs, the edges that it names, and wrong inputs. */
public final class PromiseTest {
    private static final int NONE = -10001, INVALID = -10002, REJECTED = -10003, FULL = -10004;
    private static final int[] NOT_VALUES = {Integer.MIN_VALUE, -10, -1, 10, 11, 100, Integer.MAX_VALUE};

    private static final Checks CHECKS = new Checks("PromiseTest");
    private static int promise;

    private static void due(String call, long due, long got) {
        CHECKS.same("promise " + promise + ": " + call, due, got);
    }

    public static void main(String[] args) {
        Runnable[] promises = {
            PromiseTest::newObject, PromiseTest::addLeft, PromiseTest::addRight, PromiseTest::removeLeft,
            PromiseTest::removeRight, PromiseTest::leftRow, PromiseTest::rightRow, PromiseTest::addFilter,
            PromiseTest::removeFilter, PromiseTest::setConstant, PromiseTest::filterCount, PromiseTest::constant,
            PromiseTest::acceptedBy, PromiseTest::answerCount, PromiseTest::answer, PromiseTest::matchCount,
            PromiseTest::blame, PromiseTest::filtersToRemove, PromiseTest::repairedConstant,
            PromiseTest::missingRows, PromiseTest::missingB, PromiseTest::insertMissing, PromiseTest::loosen,
            PromiseTest::addWish, PromiseTest::clearWishes, PromiseTest::satisfiedWishes,
            PromiseTest::filtersToRemoveForWishes, PromiseTest::append, PromiseTest::clearText,
            PromiseTest::runScript, PromiseTest::undo, PromiseTest::errorCount, PromiseTest::digest,
        };
        for (int i = 0; i < promises.length; i++) {
            promise = i + 1;
            promises[i].run();
        }
        CHECKS.end();
    }

    // ---- help for the tests

    private static void errorsAre(String when, WhyNotJoin x, int invalid, int rejected, int full) {
        due("errorCount(0) " + when, invalid, x.errorCount(0));
        due("errorCount(1) " + when, rejected, x.errorCount(1));
        due("errorCount(2) " + when, full, x.errorCount(2));
    }

    private interface PairCall {
        int on(WhyNotJoin x, int first, int second);
    }

    /** A call that takes two values answers INVALID for each wrong one, counts it and changes nothing else. */
    private static void refusesWrongPairs(String name, PairCall call) {
        WhyNotJoin x = States.sample();
        int count = 0;
        for (int wrong : NOT_VALUES) {
            due(name + "(" + wrong + ", 2)", INVALID, call.on(x, wrong, 2));
            due(name + "(2, " + wrong + ")", INVALID, call.on(x, 2, wrong));
            count += 2;
        }
        errorsAre("after wrong " + name, x, count, 0, 0);
        due("answerCount() after wrong " + name, 4, x.answerCount());
        due("filterCount() after wrong " + name, 0, x.filterCount());
        due("undo() after wrong " + name, 4, x.undo());
        due("rightRow(2) after wrong " + name + " and undo()", NONE, x.rightRow(2));
        due("clearWishes() after wrong " + name, 0, x.clearWishes());
    }

    private interface IndexCall {
        int on(WhyNotJoin x, int index);
    }

    /** A call that takes an index of something that is there answers INVALID for every other one. */
    private static void refusesWrongIndexes(String name, int size, IndexCall call) {
        WhyNotJoin x = States.sample();
        x.addFilter(0, 0, 0, 9);
        x.addFilter(1, 0, 0, 9);
        int[] wrong = {Integer.MIN_VALUE, -1, size, size + 1, 10, Integer.MAX_VALUE};
        for (int index : wrong) {
            due(name + "(" + index + ")", INVALID, call.on(x, index));
        }
        errorsAre("after wrong " + name, x, wrong.length, 0, 0);
        due("filterCount() after wrong " + name, 2, x.filterCount());
        due("undo() after wrong " + name, 4, x.undo());
        due("filterCount() after wrong " + name + " and undo()", 1, x.filterCount());
    }

    // ---- the promises

    private static void newObject() {
        WhyNotJoin x = new WhyNotJoin();
        due("leftRow(0)", NONE, x.leftRow(0));
        due("rightRow(0)", NONE, x.rightRow(0));
        due("filterCount()", 0, x.filterCount());
        due("answerCount()", 0, x.answerCount());
        due("clearText()", 0, x.clearText());
        due("satisfiedWishes()", 0, x.satisfiedWishes());
        due("filtersToRemoveForWishes()", 0, x.filtersToRemoveForWishes());
        errorsAre("at first", x, 0, 0, 0);
        due("undo()", REJECTED, x.undo());
        due("clearWishes()", 0, x.clearWishes());
        WhyNotJoin y = new WhyNotJoin();
        x.addLeft(1, 1);
        due("leftRow(0) of another object", NONE, y.leftRow(0));
    }

    private static void addLeft() {
        WhyNotJoin x = new WhyNotJoin();
        due("addLeft(0, 9)", 1, x.addLeft(0, 9));
        due("addLeft(9, 0)", 2, x.addLeft(9, 0));
        due("leftRow(0)", 9, x.leftRow(0));
        due("leftRow(1)", 90, x.leftRow(1));
        due("rightRow(0)", NONE, x.rightRow(0));
        due("addLeft(0, 9) again", REJECTED, x.addLeft(0, 9));
        for (int i = 3; i <= 10; i++) {
            due("addLeft(5, " + (i - 3) + ")", i, x.addLeft(5, i - 3));
        }
        due("addLeft(5, 7), the last row, again", REJECTED, x.addLeft(5, 7));
        due("addLeft(6, 6) as the 11th", FULL, x.addLeft(6, 6));
        due("addLeft(9, 0) when it is there and full", REJECTED, x.addLeft(9, 0));
        due("addLeft(9, 10) when full", INVALID, x.addLeft(9, 10));
        due("leftRow(10)", NONE, x.leftRow(10));
        errorsAre("after addLeft", x, 1, 3, 1);
        due("undo()", 4, x.undo());
        due("leftRow(9) after undo", NONE, x.leftRow(9));
        due("leftRow(8) after undo", 56, x.leftRow(8));
        refusesWrongPairs("addLeft", WhyNotJoin::addLeft);
    }

    private static void addRight() {
        WhyNotJoin x = new WhyNotJoin();
        due("addRight(0, 9)", 1, x.addRight(0, 9));
        due("addRight(9, 0)", 2, x.addRight(9, 0));
        due("rightRow(0)", 9, x.rightRow(0));
        due("rightRow(1)", 90, x.rightRow(1));
        due("leftRow(0)", NONE, x.leftRow(0));
        due("addRight(0, 9) again", REJECTED, x.addRight(0, 9));
        for (int i = 3; i <= 10; i++) {
            due("addRight(5, " + (i - 3) + ")", i, x.addRight(5, i - 3));
        }
        due("addRight(5, 7), the last row, again", REJECTED, x.addRight(5, 7));
        due("addRight(6, 6) as the 11th", FULL, x.addRight(6, 6));
        due("addRight(9, 0) when it is there and full", REJECTED, x.addRight(9, 0));
        due("addRight(-1, 0) when full", INVALID, x.addRight(-1, 0));
        errorsAre("after addRight", x, 1, 3, 1);
        due("undo()", 4, x.undo());
        due("rightRow(9) after undo", NONE, x.rightRow(9));
        due("rightRow(8) after undo", 56, x.rightRow(8));
        refusesWrongPairs("addRight", WhyNotJoin::addRight);
    }

    private static void removeLeft() {
        WhyNotJoin x = States.sample();
        due("removeLeft(0)", 2, x.removeLeft(0));
        due("leftRow(0)", 13, x.leftRow(0));
        due("leftRow(1)", 42, x.leftRow(1));
        due("leftRow(2)", NONE, x.leftRow(2));
        due("rightRow(2)", 26, x.rightRow(2));
        due("addLeft(1, 2) after its removal", 3, x.addLeft(1, 2));
        due("leftRow(2)", 12, x.leftRow(2));
        due("removeLeft(2), the last", 2, x.removeLeft(2));
        due("undo()", 4, x.undo());
        due("leftRow(2) after undo", 12, x.leftRow(2));
        due("removeLeft(1)", 2, x.removeLeft(1));
        due("leftRow(1)", 12, x.leftRow(1));
        refusesWrongIndexes("removeLeft", 3, WhyNotJoin::removeLeft);
        due("removeLeft(0) of an empty table", INVALID, new WhyNotJoin().removeLeft(0));
    }

    private static void removeRight() {
        WhyNotJoin x = States.sample();
        due("removeRight(1)", 2, x.removeRight(1));
        due("rightRow(0)", 25, x.rightRow(0));
        due("rightRow(1)", 26, x.rightRow(1));
        due("rightRow(2)", NONE, x.rightRow(2));
        due("leftRow(2)", 42, x.leftRow(2));
        due("removeRight(1)", 1, x.removeRight(1));
        due("removeRight(0)", 0, x.removeRight(0));
        due("rightRow(0)", NONE, x.rightRow(0));
        due("undo()", 4, x.undo());
        due("rightRow(0) after undo", 25, x.rightRow(0));
        refusesWrongIndexes("removeRight", 3, WhyNotJoin::removeRight);
    }

    private static void leftRow() {
        WhyNotJoin x = States.sample();
        due("leftRow(0)", 12, x.leftRow(0));
        due("leftRow(1)", 13, x.leftRow(1));
        due("leftRow(2)", 42, x.leftRow(2));
        due("leftRow(3)", NONE, x.leftRow(3));
        due("leftRow(10)", NONE, x.leftRow(10));
        due("leftRow(max)", NONE, x.leftRow(Integer.MAX_VALUE));
        errorsAre("after NONE", x, 0, 0, 0);
        due("leftRow(-1)", INVALID, x.leftRow(-1));
        due("leftRow(min)", INVALID, x.leftRow(Integer.MIN_VALUE));
        errorsAre("after wrong leftRow", x, 2, 0, 0);
        due("undo()", 4, x.undo());
    }

    private static void rightRow() {
        WhyNotJoin x = States.sample();
        due("rightRow(0)", 25, x.rightRow(0));
        due("rightRow(1)", 36, x.rightRow(1));
        due("rightRow(2)", 26, x.rightRow(2));
        due("rightRow(3)", NONE, x.rightRow(3));
        due("rightRow(10)", NONE, x.rightRow(10));
        due("rightRow(max)", NONE, x.rightRow(Integer.MAX_VALUE));
        errorsAre("after NONE", x, 0, 0, 0);
        due("rightRow(-1)", INVALID, x.rightRow(-1));
        due("rightRow(min)", INVALID, x.rightRow(Integer.MIN_VALUE));
        errorsAre("after wrong rightRow", x, 2, 0, 0);
    }

    private static void addFilter() {
        int[][] good = {
            {0, 0, 0, 0}, {0, 1, 3, 9}, {1, 0, 1, 0}, {1, 1, 2, 9}, {2, 0, 0, -9}, {2, 1, 3, 18}, {2, 2, 2, 0},
        };
        for (int[] f : good) {
            WhyNotJoin x = new WhyNotJoin();
            due("addFilter of the first filter", 0, x.addFilter(f[0], f[1], f[2], f[3]));
            due("constant(0)", f[3], x.constant(0));
            due("undo()", 0, x.undo());
            due("filterCount() after undo", 0, x.filterCount());
        }
        int[][] wrong = {
            {-1, 0, 0, 0}, {3, 0, 0, 0}, {0, -1, 0, 0}, {0, 2, 0, 0}, {1, 2, 0, 0}, {2, -1, 0, 0}, {2, 3, 0, 0},
            {0, 0, -1, 0}, {0, 0, 4, 0}, {2, 0, 4, 0}, {0, 0, 0, -1}, {0, 0, 0, 10}, {1, 1, 1, -1}, {1, 1, 1, 10},
            {2, 0, 0, -10}, {2, 0, 0, 19}, {2, 2, 0, 19}, {Integer.MIN_VALUE, 0, 0, 0}, {0, Integer.MAX_VALUE, 0, 0},
            {0, 0, Integer.MIN_VALUE, 0}, {2, 0, 0, Integer.MAX_VALUE}, {2, 0, 0, Integer.MIN_VALUE},
        };
        WhyNotJoin x = new WhyNotJoin();
        for (int[] f : wrong) {
            due("addFilter(" + f[0] + ", " + f[1] + ", " + f[2] + ", " + f[3] + ")", INVALID,
                    x.addFilter(f[0], f[1], f[2], f[3]));
        }
        for (int i = 0; i < 6; i++) {
            due("addFilter, the same again", i, x.addFilter(2, 0, 1, 7));
        }
        due("addFilter of a 7th", FULL, x.addFilter(2, 0, 1, 7));
        due("addFilter of a wrong 7th", INVALID, x.addFilter(2, 0, 1, 19));
        errorsAre("after addFilter", x, wrong.length + 1, 0, 1);
        due("filterCount()", 6, x.filterCount());
        operatorsAndColumns();
    }

    /** One match with a = 4, b = 2, c = 5; each filter either keeps or drops it. */
    private static void operatorsAndColumns() {
        int[] stages = {0, 0, 1, 1, 2, 2, 2};
        int[] columns = {0, 1, 0, 1, 0, 1, 2};
        int[] values = {4, 2, 2, 5, -1, 9, 2};
        for (int i = 0; i < stages.length; i++) {
            for (int operator = 0; operator < 4; operator++) {
                for (int off = -1; off <= 1; off++) {
                    WhyNotJoin x = new WhyNotJoin();
                    x.addLeft(4, 2);
                    x.addRight(2, 5);
                    x.addFilter(stages[i], columns[i], operator, values[i] + off);
                    boolean kept = operator == 0 ? off >= 0 : operator == 1 ? off <= 0 : (off == 0) == (operator == 2);
                    due("answerCount() with stage " + stages[i] + ", column " + columns[i] + ", operator " + operator
                            + ", constant " + (values[i] + off), kept ? 1 : 0, x.answerCount());
                }
            }
        }
    }

    private static void removeFilter() {
        WhyNotJoin x = new WhyNotJoin();
        x.addFilter(0, 0, 1, 5);
        x.addFilter(2, 1, 3, -8);
        x.addFilter(1, 1, 2, 7);
        x.addLeft(1, 2);
        x.addRight(2, 7);
        due("answerCount()", 0, x.answerCount());
        due("removeFilter(0)", 2, x.removeFilter(0));
        due("constant(0)", -8, x.constant(0));
        due("constant(1)", 7, x.constant(1));
        due("constant(2)", INVALID, x.constant(2));
        due("answerCount()", 1, x.answerCount());
        due("acceptedBy(1)", 1, x.acceptedBy(1));
        due("setConstant(1, 10), as at RIGHT_STAGE", INVALID, x.setConstant(1, 10));
        due("setConstant(0, 18), as at JOIN_STAGE", -8, x.setConstant(0, 18));
        due("removeFilter(1), the last", 1, x.removeFilter(1));
        due("undo()", 4, x.undo());
        due("filterCount() after undo", 2, x.filterCount());
        due("constant(1) after undo", 7, x.constant(1));
        refusesWrongIndexes("removeFilter", 2, WhyNotJoin::removeFilter);
    }

    private static void setConstant() {
        WhyNotJoin x = new WhyNotJoin();
        x.addFilter(0, 0, 0, 4);
        x.addFilter(1, 0, 0, 5);
        x.addFilter(2, 0, 0, -6);
        due("setConstant(0, 9)", 4, x.setConstant(0, 9));
        due("setConstant(0, 0)", 9, x.setConstant(0, 0));
        due("setConstant(1, 9)", 5, x.setConstant(1, 9));
        due("setConstant(2, 18)", -6, x.setConstant(2, 18));
        due("setConstant(2, -9)", 18, x.setConstant(2, -9));
        due("constant(2)", -9, x.constant(2));
        due("constant(1)", 9, x.constant(1));
        due("setConstant(2, -9) again", -9, x.setConstant(2, -9));
        due("undo() of a change to the same", 4, x.undo());
        due("constant(2) after undo", -9, x.constant(2));
        due("undo()", 3, x.undo());
        due("constant(2) after undo", 18, x.constant(2));
        int[][] wrong = {
            {0, -1}, {0, 10}, {1, -1}, {1, 10}, {1, 18}, {2, -10}, {2, 19}, {3, 4}, {-1, 4}, {6, 4},
            {Integer.MIN_VALUE, 0}, {Integer.MAX_VALUE, 0}, {0, Integer.MIN_VALUE}, {2, Integer.MAX_VALUE},
        };
        for (int[] w : wrong) {
            due("setConstant(" + w[0] + ", " + w[1] + ")", INVALID, x.setConstant(w[0], w[1]));
        }
        errorsAre("after setConstant", x, wrong.length, 0, 0);
        due("constant(0)", 0, x.constant(0));
        due("undo()", 2, x.undo());
    }

    private static void filterCount() {
        WhyNotJoin x = new WhyNotJoin();
        for (int i = 0; i < 6; i++) {
            due("filterCount()", i, x.filterCount());
            x.addFilter(0, 0, 0, i);
        }
        due("filterCount()", 6, x.filterCount());
        x.addFilter(0, 0, 0, 0);
        due("filterCount() after FULL", 6, x.filterCount());
        x.removeFilter(3);
        due("filterCount()", 5, x.filterCount());
        x.undo();
        due("filterCount() after undo", 6, x.filterCount());
    }

    private static void constant() {
        WhyNotJoin x = new WhyNotJoin();
        x.addFilter(2, 0, 0, -9);
        x.addFilter(0, 0, 0, 3);
        due("constant(0)", -9, x.constant(0));
        due("constant(1)", 3, x.constant(1));
        due("undo()", 1, x.undo());
        due("constant(1) after undo", INVALID, x.constant(1));
        refusesWrongIndexes("constant", 2, WhyNotJoin::constant);
    }

    private static void acceptedBy() {
        WhyNotJoin x = States.sample();
        x.addFilter(0, 1, 0, 2);
        x.addFilter(1, 1, 1, 6);
        x.addFilter(2, 0, 0, -4);
        x.addFilter(2, 2, 3, 2);
        x.addFilter(0, 0, 2, 9);
        due("acceptedBy(0), left rows with b <= 2", 2, x.acceptedBy(0));
        due("acceptedBy(1), right rows with c >= 6", 2, x.acceptedBy(1));
        due("acceptedBy(2), pairs with a - c <= -4", 3, x.acceptedBy(2));
        due("acceptedBy(3), pairs with b != 2", 1, x.acceptedBy(3));
        due("acceptedBy(4), left rows with a == 9", 0, x.acceptedBy(4));
        due("answerCount(), for the others count there", 0, x.answerCount());
        x.addFilter(2, 1, 1, -9);
        due("acceptedBy(5), every pair with the same b", 5, x.acceptedBy(5));
        due("undo()", 4, x.undo());
        refusesWrongIndexes("acceptedBy", 2, WhyNotJoin::acceptedBy);
    }

    private static void answerCount() {
        WhyNotJoin x = States.sample();
        due("answerCount(), (1,6) counting once", 4, x.answerCount());
        x.addFilter(0, 1, 1, 3);
        due("answerCount() with b >= 3", 1, x.answerCount());
        x.removeFilter(0);
        x.addFilter(1, 1, 3, 6);
        due("answerCount() with c != 6", 2, x.answerCount());
        x.addFilter(2, 1, 2, 9);
        due("answerCount() with a + c == 9", 1, x.answerCount());
        x.removeRight(0);
        due("answerCount() without the right row", 0, x.answerCount());
        WhyNotJoin y = new WhyNotJoin();
        for (int i = 0; i < 10; i++) {
            y.addLeft(i, 4);
            y.addRight(4, i);
        }
        due("answerCount() of all pairs", 100, y.answerCount());
        due("answer(0)", 0, y.answer(0));
        due("answer(57)", 57, y.answer(57));
        due("answer(99)", 99, y.answer(99));
        due("answer(100)", NONE, y.answer(100));
    }

    private static void answer() {
        WhyNotJoin x = new WhyNotJoin();
        x.addLeft(7, 1);
        x.addLeft(2, 1);
        x.addLeft(2, 3);
        x.addRight(1, 9);
        x.addRight(1, 0);
        x.addRight(3, 0);
        due("answer(0)", 20, x.answer(0));
        due("answer(1)", 29, x.answer(1));
        due("answer(2)", 70, x.answer(2));
        due("answer(3)", 79, x.answer(3));
        due("answer(4)", NONE, x.answer(4));
        due("answer(max)", NONE, x.answer(Integer.MAX_VALUE));
        errorsAre("after NONE", x, 0, 0, 0);
        due("answer(-1)", INVALID, x.answer(-1));
        due("answer(min)", INVALID, x.answer(Integer.MIN_VALUE));
        errorsAre("after wrong answer", x, 2, 0, 0);
    }

    private static void matchCount() {
        WhyNotJoin x = States.sample();
        due("matchCount(1, 6)", 2, x.matchCount(1, 6));
        due("matchCount(1, 5)", 1, x.matchCount(1, 5));
        due("matchCount(4, 6)", 1, x.matchCount(4, 6));
        due("matchCount(0, 0)", 0, x.matchCount(0, 0));
        x.addFilter(2, 2, 3, 2);
        due("matchCount(1, 6) with b != 2", 1, x.matchCount(1, 6));
        due("matchCount(1, 5) with b != 2", 0, x.matchCount(1, 5));
        WhyNotJoin y = new WhyNotJoin();
        for (int b = 0; b < 10; b++) {
            y.addLeft(3, b);
            y.addRight(b, 8);
        }
        due("matchCount(3, 8)", 10, y.matchCount(3, 8));
        due("answerCount()", 1, y.answerCount());
        refusesWrongPairs("matchCount", WhyNotJoin::matchCount);
    }

    private static void blame() {
        WhyNotJoin x = new WhyNotJoin();
        due("blame(1, 5), no rows", 0, x.blame(1, 5));
        x.addRight(2, 5);
        due("blame(1, 5), only a right row", 0, x.blame(1, 5));
        x.addLeft(1, 3);
        due("blame(1, 5), no common b", 2, x.blame(1, 5));
        due("blame(1, 6), no right row", 1, x.blame(1, 6));
        x.addLeft(1, 2);
        due("blame(1, 5), present", 9, x.blame(1, 5));
        x.addFilter(2, 0, 1, -3);
        due("blame(1, 5), JOIN filter 0", 10, x.blame(1, 5));
        x.addFilter(1, 1, 0, 4);
        due("blame(1, 5), RIGHT filter 1 comes before JOIN filter 0", 11, x.blame(1, 5));
        x.addFilter(0, 1, 3, 2);
        due("blame(1, 5), LEFT filter 2 leaves b = 3", 11, x.blame(1, 5));
        x.addFilter(0, 1, 3, 3);
        due("blame(1, 5), LEFT filter 3 drops the last row", 13, x.blame(1, 5));
        due("blame(1, 6), LEFT filter comes before NO_RIGHT_ROW", 13, x.blame(1, 6));
        due("blame(2, 5), NO_LEFT_ROW comes before all", 0, x.blame(2, 5));
        x.addFilter(0, 0, 2, 9);
        due("blame(1, 5), the first emptying filter", 13, x.blame(1, 5));
        blameAfterStages();
        refusesWrongPairs("blame", WhyNotJoin::blame);
    }

    /** Rows that join at first, but no more when the filters of both sides have each dropped one of them. */
    private static void blameAfterStages() {
        WhyNotJoin x = new WhyNotJoin();
        x.addLeft(1, 2);
        x.addLeft(1, 3);
        x.addRight(2, 5);
        x.addRight(3, 5);
        x.addFilter(0, 1, 2, 2);
        x.addFilter(1, 0, 2, 3);
        due("blame(1, 5), remaining rows do not join", 2, x.blame(1, 5));
        x.removeFilter(1);
        x.addFilter(2, 2, 2, 3);
        due("blame(1, 5), JOIN filter on the remaining pair", 11, x.blame(1, 5));
        WhyNotJoin y = new WhyNotJoin();
        y.addLeft(1, 2);
        y.addLeft(1, 3);
        y.addRight(2, 5);
        y.addRight(3, 5);
        y.addFilter(2, 2, 2, 2);
        y.addFilter(2, 1, 1, 0);
        y.addFilter(2, 2, 2, 3);
        due("blame(1, 5), two JOIN filters together", 12, y.blame(1, 5));
        due("filtersToRemove(1, 5)", 1, y.filtersToRemove(1, 5));
        WhyNotJoin z = new WhyNotJoin();
        z.addLeft(1, 2);
        for (int i = 0; i < 5; i++) {
            z.addFilter(0, 0, 1, 0);
        }
        z.addFilter(0, 0, 1, 2);
        due("blame(1, 5), filter 5", 15, z.blame(1, 5));
        valuesAtTheEdge();
    }

    /** The pair (0, 0) by b = 0 and the pair (9, 9) by b = 9 are like any other. */
    private static void valuesAtTheEdge() {
        for (int v = 0; v <= 9; v += 9) {
            WhyNotJoin x = new WhyNotJoin();
            x.addLeft(v, v);
            x.addRight(v, v);
            x.addFilter(0, 1, 2, v);
            x.addFilter(1, 0, 2, v);
            x.addFilter(2, 2, 2, v);
            x.addWish(v, v);
            String pair = "(" + v + ", " + v + ")";
            due("blame" + pair, 9, x.blame(v, v));
            due("filtersToRemove" + pair, 0, x.filtersToRemove(v, v));
            due("repairedConstant" + pair, v, x.repairedConstant(v, v, 1));
            due("missingRows" + pair, 0, x.missingRows(v, v));
            due("satisfiedWishes()", 1, x.satisfiedWishes());
            x.setConstant(2, 4);
            due("blame" + pair, 12, x.blame(v, v));
            due("filtersToRemove" + pair, 4, x.filtersToRemove(v, v));
            due("repairedConstant" + pair, v, x.repairedConstant(v, v, 2));
            due("filtersToRemoveForWishes()", 4, x.filtersToRemoveForWishes());
            x.loosen(v, v);
            due("answer(0)", 11 * v, x.answer(0));
        }
    }

    private static void filtersToRemove() {
        WhyNotJoin x = States.sample();
        due("filtersToRemove(1, 6), present", 0, x.filtersToRemove(1, 6));
        due("filtersToRemove(4, 9), never", NONE, x.filtersToRemove(4, 9));
        due("filtersToRemove(0, 5), never", NONE, x.filtersToRemove(0, 5));
        x.addFilter(0, 1, 3, 2);
        x.addFilter(2, 2, 3, 3);
        due("filtersToRemove(1, 6), one of two: the smaller mask", 1, x.filtersToRemove(1, 6));
        due("filtersToRemove(4, 6)", 1, x.filtersToRemove(4, 6));
        x.addFilter(1, 0, 3, 2);
        due("filtersToRemove(1, 6), the one filter against b = 3", 2, x.filtersToRemove(1, 6));
        due("filtersToRemove(4, 6), both filters against b = 2", 5, x.filtersToRemove(4, 6));
        due("filtersToRemove(4, 9) with filters", NONE, x.filtersToRemove(4, 9));
        x.addFilter(2, 1, 0, -9);
        x.addFilter(1, 1, 0, 0);
        x.addFilter(0, 0, 2, 9);
        due("filtersToRemove(1, 6)", 58, x.filtersToRemove(1, 6));
        due("filtersToRemove(4, 6)", 61, x.filtersToRemove(4, 6));
        due("filterCount() is not changed", 6, x.filterCount());
        due("undo() shows that nothing was saved", 4, x.undo());
        WhyNotJoin y = new WhyNotJoin();
        y.addLeft(1, 2);
        y.addLeft(1, 3);
        y.addRight(2, 5);
        y.addRight(3, 5);
        y.addFilter(2, 2, 3, 2);
        y.addFilter(2, 2, 3, 2);
        y.addFilter(2, 2, 3, 3);
        due("filtersToRemove(1, 5), one filter before two with a smaller mask", 4, y.filtersToRemove(1, 5));
        refusesWrongPairs("filtersToRemove", WhyNotJoin::filtersToRemove);
    }

    private static void repairedConstant() {
        WhyNotJoin x = States.sample();
        x.addFilter(0, 1, 1, 9);
        due("repairedConstant(1, 6, 0), the nearest of 2 and 3", 3, x.repairedConstant(1, 6, 0));
        due("repairedConstant(1, 5, 0)", 2, x.repairedConstant(1, 5, 0));
        due("repairedConstant(4, 9, 0), never", NONE, x.repairedConstant(4, 9, 0));
        due("constant(0) is not changed", 9, x.constant(0));
        x.setConstant(0, 1);
        due("repairedConstant(1, 6, 0), present", 1, x.repairedConstant(1, 6, 0));
        x.addFilter(0, 0, 2, 9);
        due("repairedConstant(1, 6, 0), another filter rejects", NONE, x.repairedConstant(1, 6, 0));
        due("repairedConstant(1, 6, 1)", 1, x.repairedConstant(1, 6, 1));
        due("repairedConstant(1, 6, 2), no such filter", INVALID, x.repairedConstant(1, 6, 2));
        due("repairedConstant(1, 6, -1)", INVALID, x.repairedConstant(1, 6, -1));
        due("repairedConstant(1, 6, max)", INVALID, x.repairedConstant(1, 6, Integer.MAX_VALUE));
        due("repairedConstant(10, 6, 2), one error for two wrong arguments", INVALID, x.repairedConstant(10, 6, 2));
        errorsAre("after repairedConstant", x, 4, 0, 0);
        equallyNearConstants();
        constantsAtTheEdge();
        for (int wrong : NOT_VALUES) {
            due("repairedConstant(" + wrong + ", 6, 0)", INVALID, x.repairedConstant(wrong, 6, 0));
            due("repairedConstant(1, " + wrong + ", 0)", INVALID, x.repairedConstant(1, wrong, 0));
        }
    }

    private static void equallyNearConstants() {
        WhyNotJoin x = new WhyNotJoin();
        x.addLeft(1, 2);
        x.addLeft(1, 4);
        x.addRight(2, 5);
        x.addRight(4, 5);
        x.addFilter(2, 2, 2, 3);
        due("repairedConstant(1, 5, 0), 2 and 4 are equally near 3", 2, x.repairedConstant(1, 5, 0));
        x.removeLeft(0);
        due("repairedConstant(1, 5, 0), 4 alone", 4, x.repairedConstant(1, 5, 0));
        x.removeFilter(0);
        x.addFilter(2, 2, 3, 4);
        due("repairedConstant(1, 5, 0), 3 and 5 with !=", 3, x.repairedConstant(1, 5, 0));
    }

    private static void constantsAtTheEdge() {
        WhyNotJoin x = new WhyNotJoin();
        x.addLeft(0, 0);
        x.addRight(0, 9);
        x.addLeft(9, 9);
        x.addRight(9, 9);
        x.addFilter(0, 0, 3, 0);
        due("repairedConstant(0, 9, 0), -1 is out of range at LEFT_STAGE", 1, x.repairedConstant(0, 9, 0));
        x.removeFilter(0);
        x.addFilter(2, 0, 2, 18);
        due("repairedConstant(0, 9, 0), from 18 to -9", -9, x.repairedConstant(0, 9, 0));
        x.removeFilter(0);
        x.addFilter(2, 1, 1, -9);
        x.setConstant(0, 18);
        due("repairedConstant(9, 9, 0), 18 is present", 18, x.repairedConstant(9, 9, 0));
        x.removeFilter(0);
        x.addFilter(2, 1, 2, -9);
        due("repairedConstant(9, 9, 0), from -9 to 18", 18, x.repairedConstant(9, 9, 0));
        x.removeFilter(0);
        x.addFilter(2, 0, 3, -9);
        due("repairedConstant(0, 9, 0), -10 is out of range at JOIN_STAGE", -8, x.repairedConstant(0, 9, 0));
        x.removeFilter(0);
        x.addFilter(1, 0, 3, 9);
        due("repairedConstant(9, 9, 0), 8 before 10", 8, x.repairedConstant(9, 9, 0));
        x.removeFilter(0);
        x.addFilter(2, 1, 3, 18);
        due("repairedConstant(9, 9, 0), 17", 17, x.repairedConstant(9, 9, 0));
    }

    private static void missingRows() {
        WhyNotJoin x = States.sample();
        due("missingRows(1, 6), present", 0, x.missingRows(1, 6));
        due("missingRows(4, 7), only the right row", 1, x.missingRows(4, 7));
        due("missingRows(0, 5), only the left row", 1, x.missingRows(0, 5));
        due("missingRows(0, 9), both", 2, x.missingRows(0, 9));
        x.addFilter(2, 2, 3, 2);
        due("missingRows(0, 5) with b != 2", 2, x.missingRows(0, 5));
        due("missingRows(1, 5) with b != 2", 1, x.missingRows(1, 5));
        x.addFilter(2, 1, 0, 6);
        due("missingRows(1, 5), a + c is 6", 1, x.missingRows(1, 5));
        due("missingRows(2, 5), a + c is 7", NONE, x.missingRows(2, 5));
        x.addFilter(0, 0, 3, 1);
        due("missingRows(1, 5) with a != 1", NONE, x.missingRows(1, 5));
        due("missingRows(0, 5)", 2, x.missingRows(0, 5));
        x.addFilter(1, 1, 3, 5);
        due("missingRows(0, 5) with c != 5", NONE, x.missingRows(0, 5));
        errorsAre("after NONE", x, 0, 0, 0);
        refusesWrongPairs("missingRows", WhyNotJoin::missingRows);
    }

    private static void missingB() {
        WhyNotJoin x = States.sample();
        due("missingB(1, 6), present", NONE, x.missingB(1, 6));
        due("missingB(1, 7), the smallest of 2 and 3", 2, x.missingB(1, 7));
        due("missingB(0, 5)", 2, x.missingB(0, 5));
        due("missingB(0, 9), no rows: the smallest b", 0, x.missingB(0, 9));
        x.addFilter(0, 1, 1, 3);
        due("missingB(1, 7) with b >= 3", 3, x.missingB(1, 7));
        due("missingB(0, 9) with b >= 3", 3, x.missingB(0, 9));
        x.addFilter(1, 0, 2, 9);
        due("missingB(0, 9) with b == 9", 9, x.missingB(0, 9));
        due("missingB(1, 6) with b == 9", 9, x.missingB(1, 6));
        x.addFilter(2, 2, 0, 8);
        due("missingB(0, 9), none possible", NONE, x.missingB(0, 9));
        errorsAre("after NONE", x, 0, 0, 0);
        WhyNotJoin y = new WhyNotJoin();
        y.addLeft(1, 7);
        due("missingB(1, 5), the cheapest, not the smallest", 7, y.missingB(1, 5));
        refusesWrongPairs("missingB", WhyNotJoin::missingB);
    }

    private static void insertMissing() {
        WhyNotJoin x = new WhyNotJoin();
        due("insertMissing(1, 5)", 2, x.insertMissing(1, 5));
        due("leftRow(0)", 10, x.leftRow(0));
        due("rightRow(0)", 5, x.rightRow(0));
        due("insertMissing(1, 5), present", 0, x.insertMissing(1, 5));
        due("insertMissing(2, 5)", 1, x.insertMissing(2, 5));
        due("leftRow(1)", 20, x.leftRow(1));
        due("insertMissing(2, 6)", 1, x.insertMissing(2, 6));
        due("rightRow(1)", 6, x.rightRow(1));
        due("undo()", 3, x.undo());
        due("undo()", 2, x.undo());
        due("leftRow(1) after undo", NONE, x.leftRow(1));
        due("undo() of an insertion of nothing", 1, x.undo());
        due("answerCount()", 1, x.answerCount());
        due("undo()", 0, x.undo());
        due("leftRow(0) after undo", NONE, x.leftRow(0));
        due("rightRow(0) after undo", NONE, x.rightRow(0));
        x.addFilter(0, 0, 3, 4);
        due("insertMissing(4, 5), no b is possible", REJECTED, x.insertMissing(4, 5));
        errorsAre("after REJECTED", x, 0, 1, 0);
        due("undo()", 0, x.undo());
        insertIntoFullTables();
        refusesWrongPairs("insertMissing", WhyNotJoin::insertMissing);
    }

    private static void insertIntoFullTables() {
        WhyNotJoin x = new WhyNotJoin();
        for (int b = 0; b < 10; b++) {
            x.addLeft(1, b);
        }
        due("insertMissing(1, 5), the right table has room", 1, x.insertMissing(1, 5));
        due("rightRow(0)", 5, x.rightRow(0));
        due("insertMissing(2, 5), the left table is full", FULL, x.insertMissing(2, 5));
        due("insertMissing(2, 6), both rows, the left table full", FULL, x.insertMissing(2, 6));
        due("rightRow(1), nothing was inserted", NONE, x.rightRow(1));
        due("insertMissing(1, 5), present", 0, x.insertMissing(1, 5));
        x.addFilter(0, 0, 3, 2);
        due("insertMissing(2, 6), REJECTED before FULL", REJECTED, x.insertMissing(2, 6));
        due("insertMissing(10, 6), INVALID before all", INVALID, x.insertMissing(10, 6));
        errorsAre("after full tables", x, 1, 1, 2);
        WhyNotJoin y = new WhyNotJoin();
        for (int b = 0; b < 10; b++) {
            y.addRight(b, 5);
        }
        due("insertMissing(2, 6), both rows, the right table full", FULL, y.insertMissing(2, 6));
        due("leftRow(0), nothing was inserted", NONE, y.leftRow(0));
        due("insertMissing(2, 5)", 1, y.insertMissing(2, 5));
        due("insertMissing(2, 6), the right table full", FULL, y.insertMissing(2, 6));
    }

    private static void loosen() {
        WhyNotJoin x = States.sample();
        x.addFilter(0, 1, 3, 2);
        x.addFilter(2, 2, 3, 3);
        x.addFilter(1, 0, 3, 2);
        x.addFilter(2, 1, 1, 7);
        due("loosen(4, 6), filters 0 and 2", 2, x.loosen(4, 6));
        due("filterCount()", 2, x.filterCount());
        due("constant(0), filter 1 before", 3, x.constant(0));
        due("constant(1), filter 3 before", 7, x.constant(1));
        due("blame(4, 6)", 9, x.blame(4, 6));
        due("loosen(4, 6), present", 0, x.loosen(4, 6));
        due("undo() of no removal", 4, x.undo());
        due("undo()", 3, x.undo());
        due("filterCount() after undo", 4, x.filterCount());
        due("filtersToRemove(4, 6) after undo", 5, x.filtersToRemove(4, 6));
        due("loosen(4, 9), never", REJECTED, x.loosen(4, 9));
        errorsAre("after REJECTED", x, 0, 1, 0);
        due("filterCount()", 4, x.filterCount());
        due("undo()", 2, x.undo());
        WhyNotJoin y = new WhyNotJoin();
        y.addLeft(1, 1);
        y.addRight(1, 1);
        for (int i = 0; i < 6; i++) {
            y.addFilter(2, 0, 1, 9);
        }
        due("loosen(1, 1), all six", 6, y.loosen(1, 1));
        due("filterCount()", 0, y.filterCount());
        refusesWrongPairs("loosen", WhyNotJoin::loosen);
    }

    private static void addWish() {
        WhyNotJoin x = new WhyNotJoin();
        due("addWish(0, 9)", 1, x.addWish(0, 9));
        due("addWish(9, 0)", 2, x.addWish(9, 0));
        due("addWish(0, 9) again", REJECTED, x.addWish(0, 9));
        due("addWish(1, 1)", 3, x.addWish(1, 1));
        due("addWish(2, 2)", 4, x.addWish(2, 2));
        due("addWish(3, 3) as the 5th", FULL, x.addWish(3, 3));
        due("addWish(2, 2) when it is there and full", REJECTED, x.addWish(2, 2));
        due("addWish(2, 10) when full", INVALID, x.addWish(2, 10));
        errorsAre("after addWish", x, 1, 2, 1);
        due("undo()", 3, x.undo());
        due("addWish(3, 3) after undo", 4, x.addWish(3, 3));
        due("leftRow(0) is not changed", NONE, x.leftRow(0));
        refusesWrongPairs("addWish", WhyNotJoin::addWish);
    }

    private static void clearWishes() {
        WhyNotJoin x = new WhyNotJoin();
        due("clearWishes() of none", 0, x.clearWishes());
        x.addWish(1, 1);
        x.addWish(2, 2);
        due("clearWishes()", 2, x.clearWishes());
        due("clearWishes() again", 0, x.clearWishes());
        due("undo()", 4, x.undo());
        due("undo()", 3, x.undo());
        due("addWish(1, 1), it is there again", REJECTED, x.addWish(1, 1));
        due("clearWishes() after undo", 2, x.clearWishes());
        due("addWish(1, 1)", 1, x.addWish(1, 1));
    }

    private static void satisfiedWishes() {
        WhyNotJoin x = States.sample();
        due("satisfiedWishes() of none", 0, x.satisfiedWishes());
        x.addWish(1, 6);
        x.addWish(4, 5);
        x.addWish(4, 9);
        due("satisfiedWishes()", 2, x.satisfiedWishes());
        x.addWish(1, 5);
        due("satisfiedWishes()", 3, x.satisfiedWishes());
        x.addFilter(0, 0, 1, 4);
        due("satisfiedWishes() with a >= 4", 1, x.satisfiedWishes());
        x.insertMissing(4, 9);
        due("satisfiedWishes() after insertMissing(4, 9)", 2, x.satisfiedWishes());
        x.undo();
        x.undo();
        x.insertMissing(4, 9);
        due("satisfiedWishes() of all", 4, x.satisfiedWishes());
    }

    private static void filtersToRemoveForWishes() {
        WhyNotJoin x = States.sample();
        x.addFilter(0, 0, 3, 4);
        x.addFilter(1, 1, 3, 5);
        x.addFilter(2, 2, 3, 2);
        due("filtersToRemoveForWishes(), no wishes", 0, x.filtersToRemoveForWishes());
        x.addWish(1, 6);
        due("filtersToRemoveForWishes(), satisfied", 0, x.filtersToRemoveForWishes());
        x.addWish(1, 5);
        due("filtersToRemoveForWishes()", 6, x.filtersToRemoveForWishes());
        x.addWish(4, 6);
        due("filtersToRemoveForWishes()", 7, x.filtersToRemoveForWishes());
        x.addWish(4, 9);
        due("filtersToRemoveForWishes(), one never", NONE, x.filtersToRemoveForWishes());
        due("filterCount() is not changed", 3, x.filterCount());
        due("undo() shows that nothing was saved", 4, x.undo());
        errorsAre("after NONE", x, 0, 0, 0);
        wishesThatShareARemoval();
    }

    /** Alone, each wish would have a filter removed that does not help the other. */
    private static void wishesThatShareARemoval() {
        WhyNotJoin x = new WhyNotJoin();
        x.addLeft(1, 1);
        x.addLeft(1, 3);
        x.addRight(1, 5);
        x.addRight(3, 5);
        x.addLeft(2, 2);
        x.addLeft(2, 3);
        x.addRight(2, 6);
        x.addRight(3, 6);
        x.addFilter(2, 2, 3, 1);
        x.addFilter(2, 2, 3, 2);
        x.addFilter(2, 2, 3, 3);
        x.addWish(1, 5);
        due("filtersToRemoveForWishes() of the first", 1, x.filtersToRemoveForWishes());
        x.addWish(2, 6);
        due("filtersToRemove(2, 6)", 2, x.filtersToRemove(2, 6));
        due("filtersToRemoveForWishes() of both", 4, x.filtersToRemoveForWishes());
        x.addFilter(2, 2, 3, 3);
        due("filtersToRemoveForWishes(), two sets of two: the smaller mask", 3, x.filtersToRemoveForWishes());
        x.addFilter(2, 1, 0, 18);
        x.addFilter(2, 1, 0, 0);
        due("filtersToRemoveForWishes(), filter 5 too", 35, x.filtersToRemoveForWishes());
    }

    private static void append() {
        WhyNotJoin x = new WhyNotJoin();
        due("append(0)", 1, x.append(0));
        due("append(127)", 2, x.append(127));
        int[] wrong = {-1, 128, Integer.MIN_VALUE, Integer.MAX_VALUE};
        for (int value : wrong) {
            due("append(" + value + ")", INVALID, x.append(value));
        }
        for (int length = 3; length <= 120; length++) {
            due("append(32)", length, x.append(32));
        }
        due("append(32) as the 121st", FULL, x.append(32));
        due("append(128) when full", INVALID, x.append(128));
        errorsAre("after append", x, 5, 0, 1);
        due("undo(), for append is not undoable", REJECTED, x.undo());
        due("clearText()", 120, x.clearText());
    }

    private static void clearText() {
        WhyNotJoin x = new WhyNotJoin();
        due("clearText() of an empty buffer", 0, x.clearText());
        x.append(101);
        x.append(59);
        due("runScript() leaves the buffer", 1, x.runScript());
        due("undo() leaves the buffer", 0, x.undo());
        due("clearText()", 2, x.clearText());
        due("clearText() again", 0, x.clearText());
        due("runScript() of nothing", -10, x.runScript());
        due("append(108) after clearText()", 1, x.append(108));
        due("undo(), for clearText is not undoable", REJECTED, x.undo());
    }

    private static void runScript() {
        WhyNotJoin x = new WhyNotJoin();
        due("a script of every command", 7, States.script(x, " l 1 02;r2 5 ; f 2 0 0 -3;f0 0 0 9;x 1;w1 5;e; "));
        due("leftRow(0)", 12, x.leftRow(0));
        due("rightRow(0)", 25, x.rightRow(0));
        due("filterCount()", 1, x.filterCount());
        due("constant(0)", -3, x.constant(0));
        due("clearWishes()", 0, x.clearWishes());
        due("undo()", 1, x.undo());
        due("undo() of the whole script", 0, x.undo());
        due("leftRow(0) after undo", NONE, x.leftRow(0));
        due("filterCount() after undo", 0, x.filterCount());
        due("w1 5;", 1, States.script(x, "w1 5;"));
        due("addWish(1, 5), it is there", REJECTED, x.addWish(1, 5));
        x.undo();
        due("the longest script", 60, States.script(x, "e;".repeat(60)));
        due("undo(), a script is one step", 0, x.undo());
        failingCommands();
        syntaxErrors();
    }

    private static void failingCommands() {
        WhyNotJoin x = States.sample();
        due("l2 2;l1 2;, the second is there", -1001, States.script(x, "l2 2;l1 2;"));
        due("leftRow(3), the first is taken back", NONE, x.leftRow(3));
        due("r2 5;", -1000, States.script(x, "r2 5;"));
        due("r10 5;", -1000, States.script(x, "r10 5;"));
        due("f0 0 0 10;", -1000, States.script(x, "f0 0 0 10;"));
        due("f2 0 0 -10;", -1000, States.script(x, "f2 0 0 -10;"));
        due("f3 0 0 0;", -1000, States.script(x, "f3 0 0 0;"));
        due("f2 0 0 18;f2 0 0 19;", -1001, States.script(x, "f2 0 0 18;f2 0 0 19;"));
        due("x0;", -1000, States.script(x, "x0;"));
        due("f0 0 0 0;x0;x0;", -1002, States.script(x, "f0 0 0 0;x0;x0;"));
        due("w1 1;w1 1;", -1001, States.script(x, "w1 1;w1 1;"));
        due("five wishes", -1004, States.script(x, "w1 1;w1 2;w1 3;w1 4;w1 5;"));
        due("seven filters", -1006, States.script(x, "f0 0 0 0;f0 0 0 0;f0 0 0 0;f0 0 0 0;f0 0 0 0;f0 0 0 0;f0 0 0 0;"));
        due("filterCount()", 0, x.filterCount());
        due("a full left table", -1007, States.script(x, "l0 0;l0 1;l0 2;l0 3;l0 4;l0 5;l0 6;l0 7;"));
        due("wishes are taken back", 0, x.clearWishes());
        errorsAre("after failing scripts", x, 0, 0, 0);
        due("undo() of clearWishes()", 4, x.undo());
        due("leftRow(2)", 42, x.leftRow(2));
        due("undo() of the last row", 3, x.undo());
        due("rightRow(2)", NONE, x.rightRow(2));
    }

    private static void syntaxErrors() {
        String[] texts = {
            "", "   ", "l", "l1", "l1 ", "l1 2", "l1 2 ", "x", "e", "e;e", "q", " q", "1", ";", " ;", "e;;", "L1 2;",
            "l12;", "l123 4;", "l1 234;", "l 1 2 3;", "l1,2;", "l-1 2;", "l1 -2;", "x-1;", "x1 2;", "x123;", "e1;",
            "f0 0 0;", "f-0 0 0 0;", "f0 -0 0 0;", "f0 0 -0 0;", "f0 0 0 -;", "f0 0 0 - 1;", "f0 0 0 --1;",
            "f0 0 0 -123;", "f0 0 0 123;", "f0 0 0 1-;", "f0 0 0 -1-1;", "f0 0 0 -", "f000 0 0 1;", "e\t;", "e; \n",
            "l1 2;z", "l\0001 2;", "w1 2;w1", "le;", "x1e;", "f0 0-1 0;", "e /;", "l1: 2;",
        };
        int[] positions = {
            0, 3, 1, 2, 3, 4, 5, 1, 1, 3, 0, 1, 0, 0, 1, 2, 0,
            3, 3, 5, 6, 2, 1, 3, 1, 3, 3, 1,
            6, 1, 3, 5, 8, 8, 8,
            10, 9, 8, 9, 8, 3, 1, 3,
            5, 1, 7, 1, 2, 4, 2, 2,
        };
        due("positions", texts.length, positions.length);
        WhyNotJoin x = new WhyNotJoin();
        for (int i = 0; i < texts.length; i++) {
            due("runScript() of '" + texts[i] + "'", -10 - positions[i], States.script(new WhyNotJoin(), texts[i]));
        }
        due("a syntax error behind a good command: nothing is executed", -10 - 5, States.script(x, "l1 2;?"));
        due("a syntax error is told before a failing command", -10 - 4, States.script(x, "x99;?"));
        due("leftRow(0)", NONE, x.leftRow(0));
        errorsAre("after syntax errors", x, 0, 0, 0);
        due("undo()", REJECTED, x.undo());
        due("too early at the length of a full buffer", -130, States.script(x, " ".repeat(120)));
        due("no space is needed before a minus", 1, States.script(x, "f2 0 0-3;"));
        due("constant(0)", -3, x.constant(0));
        due("spaces wherever they may stand", 2, States.script(x, "  f  2  0  0  -03  ;  e  ;  "));
        due("-0", 1, States.script(x, "f0 0 0 -0;"));
        due("constant(2)", 0, x.constant(2));
        due("-00 and 00", 1, States.script(x, "f00 01 03 -00;"));
        due("two digits", 1, States.script(x, "f2 0 0 18;"));
        due("constant(4)", 18, x.constant(4));
    }

    private static void undo() {
        WhyNotJoin x = new WhyNotJoin();
        due("undo() of nothing", REJECTED, x.undo());
        for (int i = 0; i < 8; i++) {
            x.addLeft(i, i);
        }
        for (int left = 4; left >= 0; left--) {
            due("undo()", left, x.undo());
            due("leftRow of the last row", 11 * (left + 2), x.leftRow(left + 2));
            due("leftRow of the row taken back", NONE, x.leftRow(left + 3));
        }
        due("undo() of a sixth", REJECTED, x.undo());
        due("leftRow(2)", 22, x.leftRow(2));
        errorsAre("after undo", x, 0, 2, 0);
        x.addLeft(9, 9);
        due("undo() after a new call", 0, x.undo());
        due("leftRow(3)", NONE, x.leftRow(3));
        failedCallsLeaveTheStack();
        undoOfFullState();
        undoOfEveryKind();
    }

    private static void failedCallsLeaveTheStack() {
        WhyNotJoin x = new WhyNotJoin();
        for (int i = 0; i < 6; i++) {
            x.addRight(i, i);
        }
        x.addLeft(10, 10);
        x.addRight(0, 0);
        x.loosen(1, 1);
        States.script(x, "l1 1;l1 1;");
        for (int left = 4; left >= 0; left--) {
            due("undo() after failed calls", left, x.undo());
            due("rightRow of the last row", 11 * left, x.rightRow(left));
            due("rightRow of the row taken back", NONE, x.rightRow(left + 1));
        }
        due("leftRow(0)", NONE, x.leftRow(0));
    }

    /** Every list is full; its last element is replaced by another, and comes back. */
    private static void undoOfFullState() {
        WhyNotJoin x = fullState();
        x.removeLeft(9);
        x.addLeft(0, 0);
        x.undo();
        x.undo();
        due("leftRow(9)", 90, x.leftRow(9));
        x.removeRight(9);
        x.addRight(0, 0);
        x.undo();
        x.undo();
        due("rightRow(9)", 9, x.rightRow(9));
        x.removeFilter(5);
        x.addFilter(0, 1, 3, 0);
        x.undo();
        x.undo();
        due("constant(5)", 8, x.constant(5));
        x.clearWishes();
        States.script(x, "w5 5;w6 6;w7 7;w8 9;");
        x.undo();
        x.undo();
        due("addWish(9, 8), it is there again", REJECTED, x.addWish(9, 8));
        for (int i = 0; i < 5; i++) {
            x.setConstant(5, 8);
        }
        WhyNotJoin y = fullState();
        y.addWish(9, 8);
        x.clearText();
        due("digest() of the full state", y.digest(), x.digest());
    }

    private static WhyNotJoin fullState() {
        WhyNotJoin x = new WhyNotJoin();
        for (int i = 0; i < 10; i++) {
            x.addLeft(i, 9 - i);
            x.addRight(9 - i, i);
        }
        for (int i = 0; i < 6; i++) {
            x.addFilter(i % 3, (i + 1) % 2, i % 4, 3 + i);
        }
        x.addWish(0, 0);
        x.addWish(1, 1);
        x.addWish(2, 2);
        x.addWish(9, 8);
        return x;
    }

    /** After each undoable call undo brings back every part of the state. */
    private static void undoOfEveryKind() {
        String[] names = {
            "addLeft", "addRight", "removeLeft", "removeRight", "addFilter", "removeFilter", "setConstant",
            "insertMissing", "loosen", "addWish", "clearWishes", "runScript",
        };
        for (int kind = 0; kind < names.length; kind++) {
            WhyNotJoin x = beforeUndoable();
            WhyNotJoin y = beforeUndoable();
            due(names[kind] + " succeeds", 1, undoable(x, kind) >= 0 ? 1 : 0);
            due(names[kind] + " changes the digest", 1, y.digest() != x.digest() ? 1 : 0);
            due("undo() of " + names[kind], 4, x.undo());
            due("leftRow(2) after undo of " + names[kind], y.leftRow(2), x.leftRow(2));
            due("rightRow(2) after undo of " + names[kind], y.rightRow(2), x.rightRow(2));
            due("filterCount() after undo of " + names[kind], y.filterCount(), x.filterCount());
            due("constant(0) after undo of " + names[kind], y.constant(0), x.constant(0));
            due("clearText() after undo of " + names[kind], y.clearText(), x.clearText());
            due("digest() after undo of " + names[kind], y.digest(), x.digest());
        }
    }

    /** A state with a filter, a wish and four saved states; the text is as long as that of undoable(x, 11). */
    private static WhyNotJoin beforeUndoable() {
        WhyNotJoin x = States.sample();
        x.addFilter(0, 0, 3, 4);
        x.addWish(4, 6);
        States.script(x, "l8 8;w8 8;x0;f2 2 3 9;e;");
        x.undo();
        return x;
    }

    private static int undoable(WhyNotJoin x, int kind) {
        switch (kind) {
            case 0: return x.addLeft(0, 0);
            case 1: return x.addRight(0, 0);
            case 2: return x.removeLeft(1);
            case 3: return x.removeRight(0);
            case 4: return x.addFilter(2, 2, 2, 2);
            case 5: return x.removeFilter(0);
            case 6: return x.setConstant(0, 1);
            case 7: return x.insertMissing(7, 7);
            case 8: return x.loosen(4, 6);
            case 9: return x.addWish(1, 1);
            case 10: return x.clearWishes();
            default: return States.script(x, "l7 7;r7 7;w7 7;f1 1 1 1;");
        }
    }

    private static void errorCount() {
        WhyNotJoin x = new WhyNotJoin();
        errorsAre("at first", x, 0, 0, 0);
        due("errorCount(-1)", INVALID, x.errorCount(-1));
        due("errorCount(3)", INVALID, x.errorCount(3));
        due("errorCount(min)", INVALID, x.errorCount(Integer.MIN_VALUE));
        due("errorCount(max)", INVALID, x.errorCount(Integer.MAX_VALUE));
        errorsAre("after wrong kinds", x, 4, 0, 0);
        x.undo();
        errorsAre("after REJECTED", x, 4, 1, 0);
        for (int i = 0; i < 5; i++) {
            x.addWish(i, i);
        }
        errorsAre("after FULL", x, 4, 1, 1);
        x.undo();
        errorsAre("after undo, which leaves the counters", x, 4, 1, 1);
        x.leftRow(99);
        x.filtersToRemove(1, 1);
        errorsAre("after NONE", x, 4, 1, 1);
    }

    private static void digest() {
        WhyNotJoin x = new WhyNotJoin();
        due("digest() of a new object", Hash.of(0, 0, 0, 0, 0, 0, 0, 0, 0, 0, 0), x.digest());
        x.addLeft(1, 2);
        x.addLeft(1, 3);
        x.addRight(2, 5);
        x.addFilter(2, 0, 1, -3);
        x.addFilter(0, 1, 3, 9);
        x.addWish(1, 5);
        x.addWish(1, 4);
        x.append(101);
        x.undo();
        x.addWish(1, 4);
        x.errorCount(7);
        due("digest()", Hash.of(1, 0, 0, 1, 5, 2, 12, 13, 1, 25, 2, 2, 0, 1, -3, 0, 0, 1, 3, 9, 2, 0,
                2, 15, 10, 1, NONE, NONE, 14, 1, NONE, 1, 2, NONE), x.digest());
        due("digest() again", x.digest(), x.digest());
        digestOfSixFilters();
        x.removeFilter(0);
        x.clearWishes();
        x.addWish(1, 5);
        x.clearText();
        due("digest()", Hash.of(1, 0, 0, 0, 5, 2, 12, 13, 1, 25, 1, 0, 1, 3, 9, 2, 1, 15,
                1, 15, 9, 0, 0, NONE, 0), x.digest());
        x.addWish(1, 5);
        x.addFilter(1, 0, 2, 9);
        due("digest()", Hash.of(1, 1, 0, 0, 5, 2, 12, 13, 1, 25, 2, 0, 1, 3, 9, 2, 1, 0, 2, 9, 0, 0,
                1, 15, 11, 2, NONE, NONE, 2), x.digest());
    }

    private static void digestOfSixFilters() {
        WhyNotJoin x = new WhyNotJoin();
        x.addLeft(0, 0);
        x.addRight(0, 0);
        for (int i = 0; i < 6; i++) {
            x.addFilter(0, 0, 0, i);
        }
        due("digest() of six filters", Hash.of(0, 0, 0, 0, 5, 1, 0, 1, 0, 6, 0, 0, 0, 0, 1, 0, 0, 0, 1, 1, 0, 0, 0, 2, 1,
                0, 0, 0, 3, 1, 0, 0, 0, 4, 1, 0, 0, 0, 5, 1, 1, 0, 0, 0), x.digest());
    }
}
