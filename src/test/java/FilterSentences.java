/** QUERY and promises 8 to 13. */
final class FilterSentences extends SentenceGroup {
    private static final int LEFT = 0, RIGHT = 1, JOIN = 2;
    private static final int A = 4, B = 2, C = 6;

    FilterSentences(Sentences sentences) {
        super(sentences);
    }

    @Override
    void run() {
        place("QUERY");
        filters();
        columns();
        result();
        place("Promise 8");
        addFilter();
        place("Promise 9");
        removeFilter();
        place("Promise 10");
        setConstant();
        place("Promise 11");
        filterCount();
        place("Promise 12");
        constant();
        place("Promise 13");
        acceptedBy();
    }

    private static Setup filters(int count) {
        return () -> States.withFilters(count, new WhyNotJoin());
    }

    private static int columnsOf(int stage) {
        return stage == JOIN ? 3 : 2;
    }

    private static int leastConstant(int stage) {
        return stage == JOIN ? -9 : 0;
    }

    private static int greatestConstant(int stage) {
        return stage == JOIN ? 18 : 9;
    }

    private static boolean holds(int x, int operator, int constant) {
        return new boolean[] {x <= constant, x >= constant, x == constant, x != constant}[operator];
    }

    /** The left row (4, 2), the right row (2, 6) and one filter. */
    private static WhyNotJoin oneMatch(int stage, int column, int operator, int constant) {
        WhyNotJoin x = new WhyNotJoin();
        x.addLeft(A, B);
        x.addRight(B, C);
        x.addFilter(stage, column, operator, constant);
        return x;
    }

    // ---- QUERY

    private void filters() {
        sentence("The query has at most 6 filters, indexed from 0 in the order in which they were added", () -> {
            WhyNotJoin x = new WhyNotJoin();
            int[] constants = {18, -9, 0, 17, -8, 3};
            for (int i = 0; i < 6; i++) {
                due("addFilter " + i, i, x.addFilter(JOIN, 0, 0, constants[i]));
            }
            due("a 7th filter", FULL, x.addFilter(JOIN, 0, 0, 5));
            due("filterCount()", 6, x.filterCount());
            for (int i = 0; i < 6; i++) {
                due("constant(" + i + ")", constants[i], x.constant(i));
            }
            due("constant(6)", INVALID, x.constant(6));
            x.removeFilter(2);
            due("a 6th filter after a removal", 5, x.addFilter(JOIN, 0, 0, 5));
            due("the same filter twice is no error", 1, States.withFilters(1, new WhyNotJoin()).addFilter(JOIN, 1, 1, -9));
        });
        sentence("A filter has a stage, a column, an operator and a constant", () -> {
            int[][] filters = {{0, 1, 2, 3}, {1, 0, 3, 9}, {2, 2, 0, -9}, {2, 1, 3, 18}, {0, 0, 0, 0}};
            for (int[] f : filters) {
                WhyNotJoin x = new WhyNotJoin();
                x.addFilter(f[0], f[1], f[2], f[3]);
                due("digest()", Hash.of(0, 0, 0, 0, 1, 0, 0, 1, f[0], f[1], f[2], f[3], 0, 0, 0, 0), x.digest());
            }
        });
        sentence("It accepts a value x of its column if \"x operator constant\" is true", () -> {
            int[][] values = {{A, B}, {B, C}, {A - C, A + C, B}};
            for (int stage = 0; stage < 3; stage++) {
                for (int column = 0; column < columnsOf(stage); column++) {
                    accepts(stage, column, values[stage][column]);
                }
            }
        });
        sentence("Stages: LEFT_STAGE (0) tests a left row, RIGHT_STAGE (1) tests a right row, JOIN_STAGE (2) tests a"
                + " left row together with a right row", () -> {
            due("LEFT_STAGE", 0, WhyNotJoin.LEFT_STAGE);
            due("RIGHT_STAGE", 1, WhyNotJoin.RIGHT_STAGE);
            due("JOIN_STAGE", 2, WhyNotJoin.JOIN_STAGE);
            stagesTest("left rows alone", States.withLeftRows(3, new WhyNotJoin()), 3, 0, 0);
            stagesTest("right rows alone", States.withRightRows(4, new WhyNotJoin()), 0, 4, 0);
            stagesTest("both", States.withRightRows(4, States.withLeftRows(3, new WhyNotJoin())), 3, 4, 3);
        });
    }

    private void accepts(int stage, int column, int value) {
        for (int operator = 0; operator < 4; operator++) {
            for (int constant = leastConstant(stage); constant <= greatestConstant(stage); constant++) {
                WhyNotJoin x = oneMatch(stage, column, operator, constant);
                String filter = "filter " + stage + " " + column + " " + operator + " " + constant;
                int accepted = holds(value, operator, constant) ? 1 : 0;
                due("acceptedBy(0), " + filter, accepted, x.acceptedBy(0));
                due("answerCount(), " + filter, accepted, x.answerCount());
            }
        }
    }

    private void stagesTest(String rows, WhyNotJoin x, int left, int right, int pairs) {
        x.addFilter(LEFT, 0, 0, 9);
        x.addFilter(RIGHT, 0, 0, 9);
        x.addFilter(JOIN, 0, 0, 9);
        due("LEFT_STAGE with " + rows, left, x.acceptedBy(0));
        due("RIGHT_STAGE with " + rows, right, x.acceptedBy(1));
        due("JOIN_STAGE with " + rows, pairs, x.acceptedBy(2));
    }

    private void columns() {
        sentence("Columns: at LEFT_STAGE 0 is a and 1 is b", () -> {
            columnIs("a", LEFT, 0, A);
            columnIs("b", LEFT, 1, B);
        });
        sentence("at RIGHT_STAGE 0 is b and 1 is c", () -> {
            columnIs("b", RIGHT, 0, B);
            columnIs("c", RIGHT, 1, C);
        });
        sentence("at JOIN_STAGE 0 is a - c, 1 is a + c and 2 is b", () -> {
            columnIs("a - c", JOIN, 0, A - C);
            columnIs("a + c", JOIN, 1, A + C);
            columnIs("b", JOIN, 2, B);
            WhyNotJoin x = new WhyNotJoin();
            x.addLeft(0, 0);
            x.addRight(0, 9);
            x.addLeft(9, 9);
            x.addRight(9, 9);
            x.addFilter(JOIN, 0, 2, -9);
            x.addFilter(JOIN, 1, 2, 18);
            due("a - c == -9, the least", 1, x.acceptedBy(0));
            due("a + c == 18, the greatest", 1, x.acceptedBy(1));
        });
        sentence("Operators: 0 is <=, 1 is >=, 2 is ==, 3 is !=", () -> {
            int[][] accepted = {{0, 1, 1}, {1, 1, 0}, {0, 1, 0}, {1, 0, 1}};
            for (int operator = 0; operator < 4; operator++) {
                for (int i = 0; i < 3; i++) {
                    due("operator " + operator + ", 4 and " + (3 + i), accepted[operator][i],
                            oneMatch(LEFT, 0, operator, 3 + i).acceptedBy(0));
                }
            }
        });
        sentence("Constants: 0 to 9 at LEFT_STAGE and RIGHT_STAGE, -9 to 18 at JOIN_STAGE", () -> {
            for (int stage = 0; stage < 3; stage++) {
                for (int column = 0; column < columnsOf(stage); column++) {
                    for (int constant = -20; constant <= 30; constant++) {
                        boolean fits = leastConstant(stage) <= constant && constant <= greatestConstant(stage);
                        due("constant " + constant + " at stage " + stage, fits ? 0 : INVALID,
                                new WhyNotJoin().addFilter(stage, column, 0, constant));
                    }
                }
            }
        });
    }

    private void columnIs(String name, int stage, int column, int value) {
        for (int constant = leastConstant(stage); constant <= greatestConstant(stage); constant++) {
            due(name + " == " + constant, constant == value ? 1 : 0, oneMatch(stage, column, 2, constant).acceptedBy(0));
        }
    }

    private void result() {
        sentence("A left row survives if every LEFT_STAGE filter accepts it", () -> {
            WhyNotJoin x = oneMatch(LEFT, 0, 2, A);
            due("one filter that accepts", 1, x.answerCount());
            x.addFilter(LEFT, 1, 2, B);
            due("two filters that accept", 1, x.answerCount());
            x.addFilter(LEFT, 0, 3, A);
            due("the last of three does not", 0, x.answerCount());
            x.removeFilter(0);
            x.addFilter(LEFT, 0, 0, 9);
            due("one in the middle does not", 0, x.answerCount());
            x.removeFilter(1);
            due("without it", 1, x.answerCount());
        });
        sentence("a right row survives if every RIGHT_STAGE filter accepts it", () -> {
            WhyNotJoin x = oneMatch(RIGHT, 0, 2, B);
            due("one filter that accepts", 1, x.answerCount());
            x.addFilter(RIGHT, 1, 2, C);
            due("two filters that accept", 1, x.answerCount());
            x.addFilter(RIGHT, 1, 3, C);
            due("the last of three does not", 0, x.answerCount());
            x.removeFilter(0);
            x.addFilter(RIGHT, 0, 0, 9);
            due("one in the middle does not", 0, x.answerCount());
            x.removeFilter(1);
            due("without it", 1, x.answerCount());
        });
        sentence("A match is a surviving left row and a surviving right row that have the same b and that every JOIN_STAGE"
                + " filter accepts", this::matches);
        sentence("The result of the query is the set of pairs (a, c) of all matches", () -> {
            WhyNotJoin x = States.sample();
            due("matchCount(1, 6)", 2, x.matchCount(1, 6));
            due("answerCount()", 4, x.answerCount());
            due("answer(1)", 16, x.answer(1));
            due("answer(2), the next pair", 45, x.answer(2));
            due("answerCount() of empty tables", 0, new WhyNotJoin().answerCount());
        });
        sentence("It is sorted by a, then by c", () -> {
            WhyNotJoin x = new WhyNotJoin();
            for (int i = 9; i >= 0; i--) {
                x.addLeft(i, 3);
                x.addRight(3, i);
            }
            for (int i = 0; i < 100; i++) {
                due("answer(" + i + ")", i, x.answer(i));
            }
        });
    }

    private void matches() {
        WhyNotJoin x = oneMatch(JOIN, 0, 2, A - C);
        due("one filter that accepts", 1, x.matchCount(A, C));
        x.addFilter(JOIN, 1, 2, A + C);
        x.addFilter(JOIN, 2, 2, B);
        due("three filters that accept", 1, x.matchCount(A, C));
        x.addFilter(JOIN, 2, 3, B);
        due("the last of four does not", 0, x.matchCount(A, C));
        x.removeFilter(3);
        x.addFilter(LEFT, 0, 3, A);
        due("the left row does not survive", 0, x.matchCount(A, C));
        x.removeFilter(3);
        x.addFilter(RIGHT, 1, 3, C);
        due("the right row does not survive", 0, x.matchCount(A, C));
        for (int b = 0; b < 10; b++) {
            WhyNotJoin y = new WhyNotJoin();
            y.addLeft(A, B);
            y.addRight(b, C);
            due("the left row with b = 2 and a right row with b = " + b, b == B ? 1 : 0, y.matchCount(A, C));
        }
    }

    // ---- promises

    private void addFilter() {
        sentence("Adds a filter at the end of the filter list", () -> {
            WhyNotJoin x = filters(3).make();
            x.addFilter(LEFT, 0, 3, 5);
            due("constant(3)", 5, x.constant(3));
            due("constant(2)", -7, x.constant(2));
            x.removeFilter(0);
            x.addFilter(LEFT, 0, 3, 6);
            due("constant(2) after a removal", 5, x.constant(2));
            due("constant(3) after a removal", 6, x.constant(3));
        });
        sentence("Undoable", () -> {
            undoableAtEveryDepth(0, "addFilter of the first", States::fresh, x -> x.addFilter(0, 1, 2, 3));
            undoableAtEveryDepth(3, "addFilter of the 4th", States::busy, x -> x.addFilter(2, 2, 3, 2));
            undoableAtEveryDepth(5, "addFilter of the 6th", filters(5), x -> x.addFilter(1, 0, 1, 9));
        });
        sentence("`stage`: 0, 1 or 2", () -> {
            range("stage", 0, 2, States::fresh, (x, stage) -> x.addFilter(stage, 0, 0, 0));
            range("stage", 0, 2, States::busy, (x, stage) -> x.addFilter(stage, 1, 3, 9));
        });
        sentence("`column`: a column of that stage: 0 or 1 at LEFT_STAGE and RIGHT_STAGE, 0 to 2 at JOIN_STAGE", () -> {
            range("column at LEFT_STAGE", 0, 1, States::fresh, (x, column) -> x.addFilter(LEFT, column, 0, 0));
            range("column at RIGHT_STAGE", 0, 1, States::fresh, (x, column) -> x.addFilter(RIGHT, column, 0, 0));
            range("column at JOIN_STAGE", 0, 2, States::fresh, (x, column) -> x.addFilter(JOIN, column, 0, 0));
        });
        sentence("`operator`: 0 to 3", () -> {
            for (int stage = 0; stage < 3; stage++) {
                int s = stage;
                range("operator at stage " + s, 0, 3, States::fresh, (x, operator) -> x.addFilter(s, 1, operator, 0));
            }
        });
        sentence("`constant`: 0 to 9 at LEFT_STAGE and RIGHT_STAGE, -9 to 18 at JOIN_STAGE", () -> {
            for (int stage = 0; stage < 3; stage++) {
                for (int column = 0; column < columnsOf(stage); column++) {
                    int s = stage;
                    int col = column;
                    range("constant at stage " + s + ", column " + col, leastConstant(s), greatestConstant(s),
                            States::fresh, (x, constant) -> x.addFilter(s, col, 2, constant));
                }
            }
        });
        sentence("Returns the index of the new filter", () -> {
            WhyNotJoin x = new WhyNotJoin();
            for (int i = 0; i < 6; i++) {
                due("addFilter", i, x.addFilter(i % 3, 0, 0, i));
            }
            x.removeFilter(0);
            x.removeFilter(0);
            due("addFilter after two removals", 4, x.addFilter(0, 0, 0, 0));
        });
        sentence("INVALID if an argument is out of range", this::addFilterOutOfRange);
        sentence("FULL if there are 6 filters", () -> {
            refusedInAll(FULL, "addFilter(0, 0, 0, 0)", x -> x.addFilter(0, 0, 0, 0), filters(6), States::full);
            refusedInAll(FULL, "addFilter(2, 2, 3, 18)", x -> x.addFilter(2, 2, 3, 18), filters(6), States::full);
            due("addFilter(2, 2, 3, 18) as the 6th", 5, filters(5).make().addFilter(2, 2, 3, 18));
        });
    }

    private void addFilterOutOfRange() {
        int[][] wrong = {
            {-1, 0, 0, 0}, {3, 0, 0, 0}, {0, -1, 0, 0}, {0, 2, 0, 0}, {1, -1, 0, 0}, {1, 2, 0, 0}, {2, -1, 0, 0},
            {2, 3, 0, 0}, {0, 0, -1, 0}, {1, 0, 4, 0}, {2, 0, 4, 0}, {0, 0, 0, -1}, {0, 0, 0, 10}, {1, 0, 0, -1},
            {1, 0, 0, 10}, {2, 0, 0, -10}, {2, 0, 0, 19}, {3, 2, 3, 18}, {-1, -1, -1, -1}, {MAX, MAX, MAX, MAX},
            {MIN, MIN, MIN, MIN}, {0, 1, 3, MAX}, {2, 2, 3, MIN},
        };
        for (int[] f : wrong) {
            refusedInAll(INVALID, "addFilter(" + f[0] + ", " + f[1] + ", " + f[2] + ", " + f[3] + ")",
                    x -> x.addFilter(f[0], f[1], f[2], f[3]), States::fresh, States::busy, States::full);
        }
    }

    private void removeFilter() {
        sentence("Removes a filter", () -> {
            WhyNotJoin x = oneMatch(LEFT, 0, 3, A);
            due("answerCount() with the filter", 0, x.answerCount());
            x.removeFilter(0);
            due("answerCount() without it", 1, x.answerCount());
            due("constant(0)", INVALID, x.constant(0));
        });
        sentence("Each later filter moves down by one index", () -> {
            for (int removed = 0; removed < 6; removed++) {
                WhyNotJoin x = filters(6).make();
                x.removeFilter(removed);
                for (int i = 0; i < 5; i++) {
                    due("constant(" + i + ") without " + removed, (i < removed ? i : i + 1) - 9, x.constant(i));
                }
                due("constant(5)", INVALID, x.constant(5));
            }
            WhyNotJoin x = new WhyNotJoin();
            x.addFilter(0, 0, 0, 0);
            x.addFilter(2, 1, 3, 18);
            x.addFilter(1, 1, 2, 9);
            x.removeFilter(0);
            due("digest(), all parts of a filter move", Hash.of(0, 0, 0, 0, 4, 0, 0, 2, 2, 1, 3, 18, 0, 1, 1, 2, 9, 0, 0, 0, 0),
                    x.digest());
        });
        sentence("Undoable", () -> {
            undoableAtEveryDepth(0, "removeFilter(0) of one", filters(1), x -> x.removeFilter(0));
            undoableAtEveryDepth(2, "removeFilter(1)", States::busy, x -> x.removeFilter(1));
            undoableAtEveryDepth(5, "removeFilter(0) of six", States::full, x -> x.removeFilter(0));
            undoableAtEveryDepth(5, "removeFilter(5) of six", States::full, x -> x.removeFilter(5));
        });
        sentence("`index`: index of an existing filter", () -> eachFilterCount("removeFilter", WhyNotJoin::removeFilter));
        sentence("Returns the new number of filters", () -> {
            WhyNotJoin x = filters(6).make();
            for (int left = 5; left >= 0; left--) {
                due("removeFilter(" + left / 2 + ")", left, x.removeFilter(left / 2));
            }
        });
        sentence("INVALID if there is no such filter", () -> noSuchFilter("removeFilter", WhyNotJoin::removeFilter));
    }

    private void eachFilterCount(String name, ArgumentCall call) {
        for (int count = 1; count <= 6; count++) {
            indexOfExisting(name, count, filters(count), call);
        }
    }

    private void noSuchFilter(String name, ArgumentCall call) {
        for (int index : new int[] {-1, 0, 1, 5, 6, MIN, MAX}) {
            refused(INVALID, name + " of none: " + index, States::fresh, x -> call.on(x, index));
            refused(INVALID, name + " of none, with rows: " + index, States::fullTables, x -> call.on(x, index));
        }
        for (int index : new int[] {-1, 6, 7, MIN, MAX}) {
            refused(INVALID, name + " of six: " + index, States::full, x -> call.on(x, index));
        }
        refused(INVALID, name + " of three: 3", States::busy, x -> call.on(x, 3));
        refused(INVALID, name + ": the index of one that was removed", FilterSentences::sixWithoutOne, x -> call.on(x, 5));
    }

    private static WhyNotJoin sixWithoutOne() {
        WhyNotJoin x = filters(6).make();
        x.removeFilter(0);
        return x;
    }

    private static WhyNotJoin oneOfEachStage() {
        WhyNotJoin x = new WhyNotJoin();
        x.addFilter(LEFT, 1, 1, 4);
        x.addFilter(RIGHT, 1, 2, 5);
        x.addFilter(JOIN, 2, 3, 6);
        return x;
    }

    private void setConstant() {
        sentence("Changes the constant of a filter", () -> {
            for (int index = 0; index < 3; index++) {
                WhyNotJoin x = oneOfEachStage();
                x.setConstant(index, 9);
                int[] c = {4, 5, 6};
                c[index] = 9;
                due("digest() with a new constant of filter " + index, Hash.of(0, 0, 0, 0, 4, 0, 0, 3,
                        0, 1, 1, c[0], 0, 1, 1, 2, c[1], 0, 2, 2, 3, c[2], 0, 0, 0, 0), x.digest());
            }
        });
        sentence("Undoable", () -> {
            undoableAtEveryDepth(4, "setConstant(0, 0)", FilterSentences::oneOfEachStage, x -> x.setConstant(0, 0));
            undoableAtEveryDepth(6, "setConstant(2, -9)", FilterSentences::oneOfEachStage, x -> x.setConstant(2, -9));
            undoableAtEveryDepth(-4, "setConstant(1, -4), unchanged", States::busy, x -> x.setConstant(1, -4));
            undoableAtEveryDepth(8, "setConstant(5, 9)", States::full, x -> x.setConstant(5, 9));
        });
        sentence("`index`: index of an existing filter",
                () -> eachFilterCount("setConstant", (x, index) -> x.setConstant(index, 0)));
        sentence("`constant`: new constant, in the range of the filter's stage", () -> {
            for (int stage = 0; stage < 3; stage++) {
                int s = stage;
                range("constant at stage " + s, leastConstant(s), greatestConstant(s), FilterSentences::oneOfEachStage,
                        (x, constant) -> x.setConstant(s, constant));
            }
            WhyNotJoin x = oneOfEachStage();
            x.removeFilter(0);
            due("setConstant(1, 18), the JOIN_STAGE filter moved down", 6, x.setConstant(1, 18));
            due("setConstant(0, 10), the RIGHT_STAGE filter moved down", INVALID, x.setConstant(0, 10));
        });
        sentence("Returns the previous constant", () -> {
            WhyNotJoin x = oneOfEachStage();
            int[][] steps = {{2, -9, 6}, {2, 18, -9}, {2, 0, 18}, {2, 0, 0}, {0, 9, 4}, {0, 0, 9}, {1, 0, 5}, {1, 9, 0}};
            for (int[] step : steps) {
                due("setConstant(" + step[0] + ", " + step[1] + ")", step[2], x.setConstant(step[0], step[1]));
                due("constant(" + step[0] + ")", step[1], x.constant(step[0]));
            }
        });
        sentence("INVALID if there is no such filter or the constant is out of range", () -> {
            noSuchFilter("setConstant", (x, index) -> x.setConstant(index, 0));
            int[][] wrong = {{0, -1}, {0, 10}, {1, -1}, {1, 10}, {2, -10}, {2, 19}, {3, 0}, {3, 19}, {-1, 19}, {-1, 0},
                {0, MIN}, {1, MAX}, {2, MIN}, {2, MAX}, {MAX, MAX}};
            for (int[] w : wrong) {
                refused(INVALID, "setConstant(" + w[0] + ", " + w[1] + ")", FilterSentences::oneOfEachStage,
                        x -> x.setConstant(w[0], w[1]));
            }
        });
    }

    private void filterCount() {
        sentence("Returns the number of filters", () -> {
            for (int count = 0; count <= 6; count++) {
                onlyAnswers(count, "filterCount()", filters(count), WhyNotJoin::filterCount);
            }
        });
        sentence("Returns 0 to 6", () -> {
            due("filterCount() of a new object", 0, new WhyNotJoin().filterCount());
            WhyNotJoin x = filters(6).make();
            x.addFilter(0, 0, 0, 0);
            due("filterCount() after a 7th", 6, x.filterCount());
            for (int i = 0; i < 7; i++) {
                x.removeFilter(0);
            }
            due("filterCount() after 7 removals of 6", 0, x.filterCount());
        });
    }

    private void constant() {
        sentence("Returns the constant of a filter", () -> {
            WhyNotJoin x = oneOfEachStage();
            due("constant(0)", 4, x.constant(0));
            due("constant(1)", 5, x.constant(1));
            due("constant(2)", 6, x.constant(2));
        });
        sentence("`index`: index of an existing filter", () -> eachFilterCount("constant", WhyNotJoin::constant));
        sentence("Returns the constant", () -> {
            for (int stage = 0; stage < 3; stage++) {
                for (int constant = leastConstant(stage); constant <= greatestConstant(stage); constant++) {
                    int s = stage;
                    int value = constant;
                    onlyAnswers(constant, "constant(0)", () -> oneMatch(s, 0, 0, value), x -> x.constant(0));
                }
            }
        });
        sentence("INVALID if there is no such filter", () -> noSuchFilter("constant", WhyNotJoin::constant));
    }

    private void acceptedBy() {
        sentence("Counts what one filter accepts by itself, all other filters being ignored", () -> {
            WhyNotJoin x = States.sample();
            for (int stage = 0; stage < 3; stage++) {
                x.addFilter(stage, 0, 0, 9);
            }
            x.addFilter(LEFT, 0, 2, 9);
            x.addFilter(RIGHT, 0, 2, 9);
            x.addFilter(JOIN, 2, 2, 9);
            int[] accepted = {3, 3, 5, 0, 0, 0};
            for (int i = 0; i < 6; i++) {
                due("acceptedBy(" + i + ")", accepted[i], x.acceptedBy(i));
            }
        });
        sentence("For a LEFT_STAGE filter it counts left rows, for a RIGHT_STAGE filter right rows, for a JOIN_STAGE filter"
                + " pairs of a left row and a right row that have the same b", this::acceptedRowsAndPairs);
        sentence("`index`: index of an existing filter", () -> eachFilterCount("acceptedBy", WhyNotJoin::acceptedBy));
        sentence("Returns the number of accepted rows or pairs", () -> {
            int[] accepted = {10, 10, 10, 10, 9, 9};
            for (int i = 0; i < 6; i++) {
                int index = i;
                onlyAnswers(accepted[i], "acceptedBy(" + i + ")", States::full, x -> x.acceptedBy(index));
            }
            onlyAnswers(0, "acceptedBy(0) of empty tables", filters(1), x -> x.acceptedBy(0));
        });
        sentence("INVALID if there is no such filter", () -> noSuchFilter("acceptedBy", WhyNotJoin::acceptedBy));
    }

    private void acceptedRowsAndPairs() {
        WhyNotJoin x = new WhyNotJoin();
        for (int i = 0; i < 10; i++) {
            x.addLeft(i, 7);
            x.addRight(7, i);
        }
        stagesTest("all rows of one b", x, 10, 10, 100);
        WhyNotJoin y = new WhyNotJoin();
        for (int b = 0; b < 10; b++) {
            y.addLeft(1, b);
            y.addRight(b, 1);
        }
        stagesTest("one pair (a, c) by every b", y, 10, 10, 10);
        WhyNotJoin z = new WhyNotJoin();
        for (int i = 0; i < 5; i++) {
            z.addLeft(i, i);
            z.addRight(i + 5, i);
        }
        stagesTest("no common b", z, 5, 5, 0);
        stagesTest("empty tables", new WhyNotJoin(), 0, 0, 0);
    }
}
