/** Promises 17 to 21. */
final class ExplanationSentences extends SentenceGroup {
    private static final int LEFT = 0, RIGHT = 1, JOIN = 2;
    private static final int EQUAL = 2, UNEQUAL = 3;

    ExplanationSentences(Sentences sentences) {
        super(sentences);
    }

    @Override
    void run() {
        place("Promise 17");
        blame();
        blameOrder();
        place("Promise 18");
        filtersToRemove();
        place("Promise 19");
        repairedConstant();
        place("Promise 20");
        missingRows();
        place("Promise 21");
        missingB();
    }

    private void takesPairs(String name, PairCall call) {
        sentence("`a`: value of column a, 0 to 9", () -> {
            range("a", 0, 9, States::busy, (x, a) -> call.on(x, a, 5));
            range("a", 0, 9, States::fresh, (x, a) -> call.on(x, a, 0));
        });
        sentence("`c`: value of column c, 0 to 9", () -> {
            range("c", 0, 9, States::busy, (x, c) -> call.on(x, 1, c));
            range("c", 0, 9, States::fresh, (x, c) -> call.on(x, 9, c));
        });
    }

    private void refusesPairs(String name, PairCall call) {
        sentence("INVALID if a or c is out of range",
                () -> pairOutOfRange(name, call, States::fresh, States::busy, States::full));
    }

    /** The pair (1, 5) by b = 2 and by b = 3. */
    private static WhyNotJoin twoWays() {
        WhyNotJoin x = new WhyNotJoin();
        x.addLeft(1, 2);
        x.addLeft(1, 3);
        x.addRight(2, 5);
        x.addRight(3, 5);
        return x;
    }

    private static WhyNotJoin oneWay(int a, int b, int c) {
        WhyNotJoin x = new WhyNotJoin();
        x.addLeft(a, b);
        x.addRight(b, c);
        return x;
    }

    // ---- blame

    private void blame() {
        sentence("Returns the first cause for which the pair (a, c) is missing from the result", () -> {
            WhyNotJoin x = twoWays();
            due("blame(1, 5), not missing", 9, x.blame(1, 5));
            due("blame(2, 6), no rows at all", 0, x.blame(2, 6));
            due("blame(1, 6), no right row", 1, x.blame(1, 6));
        });
        sentence("(1) NO_LEFT_ROW: no left row has this a", () -> {
            onlyAnswers(0, "blame(0, 0) of empty tables", States::fresh, x -> x.blame(0, 0));
            WhyNotJoin x = oneWay(1, 2, 5);
            for (int a = 0; a < 10; a++) {
                due("blame(" + a + ", 5)", a == 1 ? 9 : 0, x.blame(a, 5));
            }
        });
        sentence("(2) LEFT_STAGE filters, by rising index, are applied one after another to the left rows with this a", () -> {
            WhyNotJoin x = twoWays();
            x.addFilter(LEFT, 1, UNEQUAL, 2);
            due("one row is left", 9, x.blame(1, 5));
            x.addFilter(RIGHT, 0, UNEQUAL, 3);
            x.addFilter(LEFT, 1, UNEQUAL, 3);
            due("the second LEFT_STAGE filter drops the other row", 12, x.blame(1, 5));
            x.addLeft(7, 7);
            due("a row with another a does not count", 12, x.blame(1, 5));
        });
        sentence("the cause is FILTER + i for the first filter i after which no row is left", () -> {
            for (int i = 0; i < 6; i++) {
                WhyNotJoin x = States.withFilters(i, oneWay(1, 2, 5));
                while (x.filterCount() < 6) {
                    x.addFilter(LEFT, 0, UNEQUAL, 1);
                }
                due("blame(1, 5)", 10 + i, x.blame(1, 5));
            }
        });
        sentence("(3) NO_RIGHT_ROW: no right row has this c", () -> {
            WhyNotJoin x = oneWay(1, 2, 5);
            for (int c = 0; c < 10; c++) {
                due("blame(1, " + c + ")", c == 5 ? 9 : 1, x.blame(1, c));
            }
            onlyAnswers(1, "blame(0, 0) of an empty right table", () -> States.withLeftRows(10, new WhyNotJoin()),
                    y -> y.blame(0, 0));
        });
        sentence("(4) RIGHT_STAGE filters are applied in the same way to the right rows with this c", this::blameRight);
        sentence("(5) NO_JOIN: no remaining left row and remaining right row have the same b", () -> {
            WhyNotJoin x = new WhyNotJoin();
            x.addLeft(1, 2);
            x.addRight(3, 5);
            due("rows that never join", 2, x.blame(1, 5));
            WhyNotJoin y = twoWays();
            y.addFilter(LEFT, 1, EQUAL, 2);
            due("one row of both sides joins", 9, y.blame(1, 5));
            y.addFilter(RIGHT, 0, EQUAL, 3);
            due("rows that join no more", 2, y.blame(1, 5));
            onlyAnswers(2, "blame(0, 9)", States::full, z -> z.blame(0, 9));
        });
        sentence("(6) JOIN_STAGE filters, by rising index, are applied one after another to the pairs of remaining rows with the"
                + " same b", this::blameJoin);
        sentence("the cause is FILTER + i for the first filter i after which no pair is left", () -> {
            for (int i = 0; i < 6; i++) {
                WhyNotJoin x = States.withFilters(i, oneWay(1, 2, 5));
                while (x.filterCount() < 6) {
                    x.addFilter(JOIN, 0, UNEQUAL, -4);
                }
                due("blame(1, 5)", 10 + i, x.blame(1, 5));
            }
        });
        sentence("(7) PRESENT: the pair is in the result", () -> {
            onlyAnswers(9, "blame(0, 0)", States::full, x -> x.blame(0, 0));
            onlyAnswers(9, "blame(9, 9)", States::full, x -> x.blame(9, 9));
            for (int pair = 0; pair < 100; pair++) {
                int a = pair / 10;
                int c = pair % 10;
                boolean present = States.busy().matchCount(a, c) > 0;
                due("PRESENT for " + pair, present ? 1 : 0, States.busy().blame(a, c) == 9 ? 1 : 0);
            }
        });
    }

    private void blameRight() {
        WhyNotJoin x = twoWays();
        x.addFilter(RIGHT, 0, UNEQUAL, 2);
        due("one row is left", 9, x.blame(1, 5));
        x.addFilter(JOIN, 2, UNEQUAL, 3);
        x.addFilter(RIGHT, 0, UNEQUAL, 3);
        due("the second RIGHT_STAGE filter drops the other row", 12, x.blame(1, 5));
        x.addRight(7, 7);
        due("a row with another c does not count", 12, x.blame(1, 5));
        for (int i = 0; i < 6; i++) {
            WhyNotJoin y = States.withFilters(i, oneWay(1, 2, 5));
            while (y.filterCount() < 6) {
                y.addFilter(RIGHT, 1, UNEQUAL, 5);
            }
            due("the first of the RIGHT_STAGE filters that reject", 10 + i, y.blame(1, 5));
        }
    }

    private void blameJoin() {
        WhyNotJoin x = twoWays();
        x.addFilter(JOIN, 2, UNEQUAL, 2);
        due("one pair is left", 9, x.blame(1, 5));
        x.addFilter(LEFT, 0, EQUAL, 1);
        x.addFilter(JOIN, 2, UNEQUAL, 3);
        due("the second JOIN_STAGE filter drops the other pair", 12, x.blame(1, 5));
        x.addLeft(7, 7);
        x.addRight(7, 7);
        due("a pair with another a and c does not count", 12, x.blame(1, 5));
        WhyNotJoin y = twoWays();
        y.addFilter(JOIN, 2, EQUAL, 3);
        y.addFilter(LEFT, 1, EQUAL, 2);
        due("a pair whose left row is dropped later does not remain", 10, y.blame(1, 5));
    }

    private void blameOrder() {
        sentence("The causes are tried in this order", () -> {
            WhyNotJoin x = new WhyNotJoin();
            x.addFilter(JOIN, 1, UNEQUAL, 6);
            x.addFilter(RIGHT, 1, UNEQUAL, 5);
            x.addFilter(LEFT, 0, UNEQUAL, 1);
            due("no left row, and all else", 0, x.blame(1, 5));
            x.addLeft(1, 2);
            due("a LEFT_STAGE filter, and all behind it", 12, x.blame(1, 5));
            x.removeFilter(2);
            due("no right row, and all behind it", 1, x.blame(1, 5));
            x.addRight(3, 5);
            due("a RIGHT_STAGE filter, and all behind it", 11, x.blame(1, 5));
            x.removeFilter(1);
            due("no join, and all behind it", 2, x.blame(1, 5));
            x.addRight(2, 5);
            due("a JOIN_STAGE filter", 10, x.blame(1, 5));
            x.removeFilter(0);
            due("present", 9, x.blame(1, 5));
        });
        takesPairs("blame", WhyNotJoin::blame);
        sentence("Returns the cause", () -> {
            onlyAnswers(0, "blame(0, 5)", States::busy, x -> x.blame(0, 5));
            onlyAnswers(1, "blame(1, 9)", States::busy, x -> x.blame(1, 9));
            onlyAnswers(9, "blame(1, 5)", States::busy, x -> x.blame(1, 5));
            onlyAnswers(11, "blame(1, 6)", States::busy, x -> x.blame(1, 6));
            onlyAnswers(14, "blame(7, 7)", States::full, x -> x.blame(7, 7));
            onlyAnswers(15, "blame(8, 8), filter 5", States::full, x -> x.blame(8, 8));
        });
        refusesPairs("blame", WhyNotJoin::blame);
    }

    // ---- filtersToRemove

    private void filtersToRemove() {
        sentence("Finds a smallest set of filters whose removal puts the pair (a, c) into the result", () -> {
            WhyNotJoin x = twoWays();
            x.addFilter(JOIN, 2, UNEQUAL, 2);
            x.addFilter(LEFT, 1, UNEQUAL, 2);
            x.addFilter(RIGHT, 0, UNEQUAL, 3);
            due("one filter, not two of a smaller mask", 4, x.filtersToRemove(1, 5));
            x.addFilter(JOIN, 1, UNEQUAL, 6);
            due("with a filter against every b", 12, x.filtersToRemove(1, 5));
            WhyNotJoin y = oneWay(1, 2, 5);
            for (int i = 0; i < 6; i++) {
                y.addFilter(JOIN, 2, UNEQUAL, 2);
            }
            due("all six", 63, y.filtersToRemove(1, 5));
        });
        sentence("Among sets of the same size the one with the smallest bit mask is chosen", () -> {
            WhyNotJoin x = twoWays();
            x.addFilter(JOIN, 2, UNEQUAL, 2);
            x.addFilter(JOIN, 2, UNEQUAL, 3);
            due("filter 0 for b = 2", 1, x.filtersToRemove(1, 5));
            x.removeFilter(0);
            x.addFilter(JOIN, 2, UNEQUAL, 2);
            due("filter 0 for b = 3", 1, x.filtersToRemove(1, 5));
            x.addFilter(JOIN, 2, UNEQUAL, 2);
            x.addFilter(JOIN, 2, UNEQUAL, 3);
            due("2 + 4, not 1 + 8", 6, x.filtersToRemove(1, 5));
        });
        sentence("The empty set (0) is returned if the pair is already in the result", () -> {
            onlyAnswers(0, "filtersToRemove(1, 5)", States::busy, x -> x.filtersToRemove(1, 5));
            onlyAnswers(0, "filtersToRemove(0, 0)", States::full, x -> x.filtersToRemove(0, 0));
            onlyAnswers(0, "filtersToRemove(9, 9)", States::full, x -> x.filtersToRemove(9, 9));
            WhyNotJoin x = twoWays();
            x.addFilter(LEFT, 1, EQUAL, 3);
            due("filtersToRemove(1, 5), one of two matches is left", 0, x.filtersToRemove(1, 5));
        });
        sentence("This method changes nothing", () -> {
            onlyAnswers(2, "filtersToRemove(1, 6)", States::busy, x -> x.filtersToRemove(1, 6));
            onlyAnswers(32, "filtersToRemove(8, 8)", States::full, x -> x.filtersToRemove(8, 8));
        });
        takesPairs("filtersToRemove", WhyNotJoin::filtersToRemove);
        sentence("Returns the set as a bit mask, bit i for filter i", () -> {
            for (int set = 0; set < 64; set++) {
                WhyNotJoin x = oneWay(1, 2, 5);
                for (int i = 0; i < 6; i++) {
                    x.addFilter(i % 3, i % 3 == LEFT ? 1 : 0, (set >> i & 1) == 1 ? EQUAL : UNEQUAL, 7);
                }
                due("filtersToRemove(1, 5)", set, x.filtersToRemove(1, 5));
            }
        });
        sentence("NONE if the pair is not in the result even without any filter", () -> {
            onlyAnswers(NONE, "filtersToRemove(0, 0) of nothing", States::fresh, x -> x.filtersToRemove(0, 0));
            onlyAnswers(NONE, "filtersToRemove(4, 9), no right row", States::busy, x -> x.filtersToRemove(4, 9));
            onlyAnswers(NONE, "filtersToRemove(0, 5), no left row", States::busy, x -> x.filtersToRemove(0, 5));
            onlyAnswers(NONE, "filtersToRemove(7, 8), no join", States::full, x -> x.filtersToRemove(7, 8));
        });
        refusesPairs("filtersToRemove", WhyNotJoin::filtersToRemove);
    }

    // ---- repairedConstant

    private static WhyNotJoin withFilter(WhyNotJoin x, int stage, int column, int operator, int constant) {
        x.addFilter(stage, column, operator, constant);
        return x;
    }

    private void repaired(String what, int due, WhyNotJoin x, int a, int c) {
        due("repairedConstant(" + a + ", " + c + ", 0), " + what, due, x.repairedConstant(a, c, 0));
    }

    private void repairedConstant() {
        sentence("Finds the constant nearest to the current constant of one filter with which the pair (a, c) is in the result,"
                + " all other filters staying as they are", () -> {
            repaired("b >= 9 becomes b >= 3", 3, withFilter(twoWays(), JOIN, 2, 1, 9), 1, 5);
            repaired("b <= 0 becomes b <= 2", 2, withFilter(twoWays(), JOIN, 2, 0, 0), 1, 5);
            repaired("b == 9 becomes b == 3", 3, withFilter(twoWays(), LEFT, 1, EQUAL, 9), 1, 5);
            repaired("b == 0 becomes b == 2", 2, withFilter(twoWays(), RIGHT, 0, EQUAL, 0), 1, 5);
            WhyNotJoin x = withFilter(twoWays(), JOIN, 2, 1, 9);
            x.addFilter(LEFT, 1, UNEQUAL, 3);
            repaired("b = 3 is dropped by another filter", 2, x, 1, 5);
            x.addFilter(RIGHT, 0, UNEQUAL, 2);
            repaired("both are dropped by others", NONE, x, 1, 5);
        });
        sentence("Only constants in the range of the filter's stage are considered", this::repairedInRange);
        sentence("If two constants are equally near, the smaller one is chosen", () -> {
            WhyNotJoin x = new WhyNotJoin();
            for (int b : new int[] {4, 2, 7, 9}) {
                x.addLeft(1, b);
                x.addRight(b, 5);
            }
            repaired("2 and 4 beside 3", 2, withFilter(x, JOIN, 2, EQUAL, 3), 1, 5);
            x.setConstant(0, 8);
            repaired("7 and 9 beside 8", 7, x, 1, 5);
            x.setConstant(0, 5);
            repaired("4 is nearer to 5 than 7", 4, x, 1, 5);
            x.setConstant(0, 6);
            repaired("7 is nearer to 6 than 4", 7, x, 1, 5);
            repaired("3 and 5 beside 4", 3, withFilter(oneWay(1, 4, 5), JOIN, 2, UNEQUAL, 4), 1, 5);
        });
        sentence("If the pair is already in the result, this is the current constant", () -> {
            for (int constant = -9; constant <= 18; constant++) {
                repaired("present", constant, withFilter(oneWay(1, 2, 5), JOIN, 1, constant < 6 ? 1 : 0, constant), 1, 5);
            }
            onlyAnswers(0, "repairedConstant(0, 0, 0)", States::full, x -> x.repairedConstant(0, 0, 0));
            onlyAnswers(18, "repairedConstant(9, 9, 2)", States::full, x -> x.repairedConstant(9, 9, 2));
            onlyAnswers(-9, "repairedConstant(9, 9, 3)", States::full, x -> x.repairedConstant(9, 9, 3));
        });
        sentence("This method changes nothing", () -> {
            onlyAnswers(-5, "repairedConstant(1, 6, 1)", States::busy, x -> x.repairedConstant(1, 6, 1));
            onlyAnswers(7, "repairedConstant(8, 8, 5)", States::full, x -> x.repairedConstant(8, 8, 5));
            onlyAnswers(6, "repairedConstant(7, 7, 4)", States::full, x -> x.repairedConstant(7, 7, 4));
        });
        repairedArguments();
    }

    private void repairedInRange() {
        repaired("not -1 at LEFT_STAGE", 1, withFilter(oneWay(0, 0, 0), LEFT, 0, UNEQUAL, 0), 0, 0);
        repaired("not -1 at RIGHT_STAGE", 1, withFilter(oneWay(0, 0, 0), RIGHT, 1, UNEQUAL, 0), 0, 0);
        repaired("-1 at JOIN_STAGE", -1, withFilter(oneWay(0, 0, 0), JOIN, 0, UNEQUAL, 0), 0, 0);
        repaired("8 at LEFT_STAGE", 8, withFilter(oneWay(9, 9, 9), LEFT, 0, UNEQUAL, 9), 9, 9);
        repaired("not -10 at JOIN_STAGE", -8, withFilter(oneWay(0, 0, 9), JOIN, 0, UNEQUAL, -9), 0, 9);
        repaired("17 at JOIN_STAGE", 17, withFilter(oneWay(9, 0, 9), JOIN, 1, UNEQUAL, 18), 9, 9);
        repaired("from 18 to -9", -9, withFilter(oneWay(0, 0, 9), JOIN, 0, EQUAL, 18), 0, 9);
        repaired("from -9 to 18", 18, withFilter(oneWay(9, 0, 9), JOIN, 1, EQUAL, -9), 9, 9);
        repaired("from 9 to 0 at LEFT_STAGE", 0, withFilter(oneWay(0, 0, 0), LEFT, 0, EQUAL, 9), 0, 0);
        repaired("from 0 to 9 at RIGHT_STAGE", 9, withFilter(oneWay(0, 0, 9), RIGHT, 1, EQUAL, 0), 0, 9);
        repaired("from 9 down to 0 with <=", 9, withFilter(oneWay(9, 0, 9), LEFT, 0, 0, 0), 9, 9);
        repaired("from 9 down to 0 with >=", 0, withFilter(oneWay(0, 0, 9), LEFT, 0, 1, 9), 0, 9);
    }

    private void repairedArguments() {
        sentence("`a`: value of column a, 0 to 9",
                () -> range("a", 0, 9, States::busy, (x, a) -> x.repairedConstant(a, 5, 0)));
        sentence("`c`: value of column c, 0 to 9",
                () -> range("c", 0, 9, States::busy, (x, c) -> x.repairedConstant(1, c, 2)));
        sentence("`index`: index of an existing filter", () -> {
            for (int count = 1; count <= 6; count++) {
                int filters = count;
                indexOfExisting("repairedConstant", count, () -> States.withFilters(filters, twoWays()),
                        (x, index) -> x.repairedConstant(1, 5, index));
            }
        });
        sentence("Returns the constant", () -> {
            for (int value = 0; value <= 9; value++) {
                for (int constant = 0; constant <= 9; constant++) {
                    int v = value;
                    int k = constant;
                    onlyAnswers(value, "repairedConstant of a == " + k, () -> withFilter(oneWay(v, 2, 5), LEFT, 0, EQUAL, k),
                            x -> x.repairedConstant(v, 5, 0));
                }
            }
        });
        sentence("NONE if no constant puts the pair into the result", () -> {
            onlyAnswers(NONE, "repairedConstant(4, 9, 0), no right row", States::busy, x -> x.repairedConstant(4, 9, 0));
            onlyAnswers(NONE, "repairedConstant(0, 5, 2), no left row", States::busy, x -> x.repairedConstant(0, 5, 2));
            onlyAnswers(NONE, "repairedConstant(1, 6, 0), another filter", States::busy, x -> x.repairedConstant(1, 6, 0));
            onlyAnswers(NONE, "repairedConstant(7, 8, 5), no join", States::full, x -> x.repairedConstant(7, 8, 5));
            WhyNotJoin x = withFilter(oneWay(9, 0, 0), JOIN, 0, EQUAL, 3);
            repaired("a - c == 9", 9, x, 9, 0);
            x.addFilter(JOIN, 0, 0, 8);
            repaired("a - c is over 8", NONE, x, 9, 0);
        });
        sentence("INVALID if an argument is out of range or there is no such filter", () -> {
            pairOutOfRange("repairedConstant of filter 0", (x, a, c) -> x.repairedConstant(a, c, 0), States::busy, States::full);
            pairOutOfRange("repairedConstant of no filter", (x, a, c) -> x.repairedConstant(a, c, 0), States::fresh);
            pairOutOfRange("repairedConstant of filter 6", (x, a, c) -> x.repairedConstant(a, c, 6), States::full);
            for (int index : new int[] {-1, 6, MIN, MAX}) {
                refusedInAll(INVALID, "repairedConstant(1, 5, " + index + ")", x -> x.repairedConstant(1, 5, index),
                        States::fresh, States::busy, States::full);
            }
            refused(INVALID, "repairedConstant(0, 0, 0)", States::fresh, x -> x.repairedConstant(0, 0, 0));
            refused(INVALID, "repairedConstant(1, 5, 3)", States::busy, x -> x.repairedConstant(1, 5, 3));
        });
    }

    // ---- missing rows

    private void missingRows() {
        sentence("Returns how many rows must at least be inserted so that the pair (a, c) is in the result", () -> {
            WhyNotJoin x = twoWays();
            int[][] pairs = {{1, 5, 0}, {1, 6, 1}, {2, 5, 1}, {2, 6, 2}};
            for (int[] p : pairs) {
                due("missingRows(" + p[0] + ", " + p[1] + ")", p[2], x.missingRows(p[0], p[1]));
                WhyNotJoin y = twoWays();
                due("insertMissing", p[2], y.insertMissing(p[0], p[1]));
                due("blame after insertMissing", 9, y.blame(p[0], p[1]));
            }
        });
        sentence("A value b is possible if the left row (a, b) passes every LEFT_STAGE filter, the right row (b, c) passes every"
                + " RIGHT_STAGE filter, and both together pass every JOIN_STAGE filter", this::possibleValues);
        sentence("The cost of a possible b is the number of these two rows that are not in their tables", () -> {
            for (int rows = 0; rows < 4; rows++) {
                WhyNotJoin x = new WhyNotJoin();
                x.addFilter(LEFT, 1, EQUAL, 9);
                if ((rows & 1) == 0) {
                    x.addLeft(9, 9);
                }
                if ((rows & 2) == 0) {
                    x.addRight(9, 0);
                }
                due("missingRows(9, 0)", Integer.bitCount(rows), x.missingRows(9, 0));
            }
        });
        sentence("The method returns the smallest cost", () -> {
            WhyNotJoin x = new WhyNotJoin();
            due("both rows for every b", 2, x.missingRows(1, 5));
            x.addLeft(1, 9);
            due("one row for b = 9", 1, x.missingRows(1, 5));
            x.addRight(0, 5);
            due("one row for b = 0 or b = 9", 1, x.missingRows(1, 5));
            x.addRight(9, 5);
            due("none for b = 9", 0, x.missingRows(1, 5));
            x.addFilter(JOIN, 2, UNEQUAL, 9);
            due("b = 9 is not possible", 1, x.missingRows(1, 5));
        });
        takesPairs("missingRows", WhyNotJoin::missingRows);
        sentence("Returns 0, 1 or 2", () -> {
            onlyAnswers(2, "missingRows(0, 0)", States::fresh, x -> x.missingRows(0, 0));
            onlyAnswers(2, "missingRows(9, 9)", States::fresh, x -> x.missingRows(9, 9));
            onlyAnswers(1, "missingRows(4, 7)", States::busy, x -> x.missingRows(4, 7));
            onlyAnswers(0, "missingRows(0, 0)", States::full, x -> x.missingRows(0, 0));
            onlyAnswers(1, "missingRows(0, 9), in full tables too", States::full, x -> x.missingRows(0, 9));
        });
        sentence("NONE if no b is possible", () -> {
            onlyAnswers(NONE, "missingRows(1, 0), filter c != 0", States::busy, x -> x.missingRows(1, 0));
            onlyAnswers(NONE, "missingRows(1, 6), filter a - c >= -4", States::busy, x -> x.missingRows(1, 6));
            onlyAnswers(NONE, "missingRows(1, 5), no b is below 2 and above 7", () -> {
                WhyNotJoin x = withFilter(twoWays(), LEFT, 1, 0, 4);
                return withFilter(x, RIGHT, 0, 1, 5);
            }, x -> x.missingRows(1, 5));
        });
        refusesPairs("missingRows", WhyNotJoin::missingRows);
    }

    private void possibleValues() {
        for (int b = 0; b < 10; b++) {
            due("b == " + b + " at LEFT_STAGE", b, withFilter(new WhyNotJoin(), LEFT, 1, EQUAL, b).missingB(1, 5));
            due("b == " + b + " at RIGHT_STAGE", b, withFilter(new WhyNotJoin(), RIGHT, 0, EQUAL, b).missingB(1, 5));
            due("b == " + b + " at JOIN_STAGE", b, withFilter(new WhyNotJoin(), JOIN, 2, EQUAL, b).missingB(1, 5));
        }
        int[][] against = {{LEFT, 0, UNEQUAL, 1}, {RIGHT, 1, UNEQUAL, 5}, {JOIN, 0, UNEQUAL, -4}, {JOIN, 1, UNEQUAL, 6},
            {JOIN, 2, EQUAL, -1}, {JOIN, 2, EQUAL, 10}};
        for (int[] f : against) {
            WhyNotJoin x = withFilter(twoWays(), f[0], f[1], f[2], f[3]);
            due("missingRows(1, 5) with a filter against every b", NONE, x.missingRows(1, 5));
            due("missingB(1, 5) with a filter against every b", NONE, x.missingB(1, 5));
        }
        WhyNotJoin y = withFilter(new WhyNotJoin(), LEFT, 1, 1, 3);
        y.addFilter(RIGHT, 0, UNEQUAL, 3);
        y.addFilter(JOIN, 2, UNEQUAL, 4);
        due("missingB(1, 5), 5 is the first that every filter passes", 5, y.missingB(1, 5));
        y.addFilter(LEFT, 1, UNEQUAL, 5);
        due("missingB(1, 5), 6 with a second LEFT_STAGE filter", 6, y.missingB(1, 5));
    }

    private void missingB() {
        sentence("Returns the value b that is used to insert the missing rows of the pair (a, c): the smallest possible b with the"
                + " smallest cost, as defined by missingRows()", () -> {
            WhyNotJoin x = new WhyNotJoin();
            due("both rows for every b", 0, x.missingB(1, 5));
            x.addLeft(1, 9);
            due("the smallest cost comes first", 9, x.missingB(1, 5));
            x.addRight(8, 5);
            due("the smaller of two b of one cost", 8, x.missingB(1, 5));
            x.addLeft(1, 0);
            due("the smallest of three", 0, x.missingB(1, 5));
            x.addFilter(JOIN, 2, 1, 1);
            due("b = 0 is not possible", 8, x.missingB(1, 5));
            x.insertMissing(1, 5);
            due("leftRow(2), the row of insertMissing", 18, x.leftRow(2));
        });
        takesPairs("missingB", WhyNotJoin::missingB);
        sentence("Returns b", () -> {
            onlyAnswers(0, "missingB(0, 0)", States::fresh, x -> x.missingB(0, 0));
            onlyAnswers(2, "missingB(4, 7)", States::busy, x -> x.missingB(4, 7));
            onlyAnswers(0, "missingB(0, 9), in full tables too", States::full, x -> x.missingB(0, 9));
            onlyAnswers(9, "missingB(9, 8), for b = 8 is not possible", States::full, x -> x.missingB(9, 8));
            onlyAnswers(0, "missingB(8, 7), for 7 and 8 are not possible", States::full, x -> x.missingB(8, 7));
        });
        sentence("NONE if no b is possible or the pair is already in the result", () -> {
            onlyAnswers(NONE, "missingB(1, 0), no b is possible", States::busy, x -> x.missingB(1, 0));
            onlyAnswers(NONE, "missingB(1, 5), present", States::busy, x -> x.missingB(1, 5));
            onlyAnswers(NONE, "missingB(0, 0), present", States::full, x -> x.missingB(0, 0));
            due("missingB(1, 5), present by the one b that is possible", NONE,
                    withFilter(twoWays(), LEFT, 1, EQUAL, 3).missingB(1, 5));
            due("missingB(1, 5), rows are there but not possible", 0,
                    withFilter(withFilter(twoWays(), LEFT, 1, UNEQUAL, 3), RIGHT, 0, UNEQUAL, 2).missingB(1, 5));
        });
        refusesPairs("missingB", WhyNotJoin::missingB);
    }
}
