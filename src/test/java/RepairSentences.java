/** Promises 22 and 23. */
final class RepairSentences extends SentenceGroup {
    private static final int LEFT = 0, RIGHT = 1, JOIN = 2;
    private static final int EQUAL = 2, UNEQUAL = 3;

    RepairSentences(Sentences sentences) {
        super(sentences);
    }

    @Override
    void run() {
        place("Promise 22");
        insertMissing();
        place("Promise 23");
        loosen();
    }

    /** So many rows in each table, none of which is with a = 9, b = 9 or c = 9. */
    private static WhyNotJoin rows(int left, int right) {
        WhyNotJoin x = new WhyNotJoin();
        for (int i = 0; i < left; i++) {
            x.addLeft(i % 5, i / 5);
        }
        for (int i = 0; i < right; i++) {
            x.addRight(i / 5, i % 5);
        }
        return x;
    }

    /** The same, with only b = 9 being possible. */
    private static WhyNotJoin rowsForNine(int left, int right) {
        WhyNotJoin x = rows(left, right);
        x.addFilter(JOIN, 2, EQUAL, 9);
        return x;
    }

    private static WhyNotJoin with(WhyNotJoin x, int left, int right) {
        if (left >= 0) {
            x.addLeft(left / 10, left % 10);
        }
        if (right >= 0) {
            x.addRight(right / 10, right % 10);
        }
        return x;
    }

    private static WhyNotJoin impossible(WhyNotJoin x) {
        x.addFilter(LEFT, 0, UNEQUAL, 9);
        return x;
    }

    private void insertMissing() {
        sentence("Inserts the missing rows of the pair (a, c) with the value missingB(a, c)", () -> {
            insertsRows("both rows", rowsForNine(2, 3), 9, 8, 99, 98);
            insertsRows("the left row", with(rowsForNine(2, 3), -1, 98), 9, 8, 99, NONE);
            insertsRows("the right row", with(rowsForNine(2, 3), 99, -1), 9, 8, NONE, 98);
            insertsRows("no row", with(rowsForNine(2, 3), 99, 98), 9, 8, NONE, NONE);
            insertsRows("with b = 0", new WhyNotJoin(), 0, 0, 0, 0);
            insertsRows("with the b of a left row", with(new WhyNotJoin(), 17, -1), 1, 5, NONE, 75);
        });
        sentence("The left row is added before the right row", () -> {
            WhyNotJoin x = States.fresh();
            x.insertMissing(4, 6);
            due("leftRow(0)", 40, x.leftRow(0));
            due("rightRow(0)", 6, x.rightRow(0));
            due("undo(), both are one step", 0, x.undo());
            due("leftRow(0) after undo", NONE, x.leftRow(0));
            due("rightRow(0) after undo", NONE, x.rightRow(0));
        });
        sentence("Undoable", () -> {
            undoableAtEveryDepth(2, "insertMissing(1, 5) of two rows", States::fresh, x -> x.insertMissing(1, 5));
            undoableAtEveryDepth(1, "insertMissing(4, 7) of a right row", States::busy, x -> x.insertMissing(4, 7));
            undoableAtEveryDepth(1, "insertMissing(3, 5) of a left row", States::busy, x -> x.insertMissing(3, 5));
            undoableAtEveryDepth(0, "insertMissing(1, 5), present", States::busy, x -> x.insertMissing(1, 5));
            undoableAtEveryDepth(0, "insertMissing(0, 0), present and full", States::full, x -> x.insertMissing(0, 0));
            undoableAtEveryDepth(2, "insertMissing(9, 8) of the 10th rows", () -> rowsForNine(9, 9),
                    x -> x.insertMissing(9, 8));
        });
        sentence("`a`: value of column a, 0 to 9", () -> {
            range("a", 0, 9, States::busy, (x, a) -> x.insertMissing(a, 5));
            range("a", 0, 9, States::fresh, (x, a) -> x.insertMissing(a, 0));
        });
        sentence("`c`: value of column c, 0 to 9", () -> {
            range("c", 0, 9, States::busy, (x, c) -> x.insertMissing(1, c));
            range("c", 0, 9, States::fresh, (x, c) -> x.insertMissing(9, c));
        });
        sentence("Returns the number of inserted rows, 0 if the pair is already in the result", () -> {
            due("both", 2, rowsForNine(0, 0).insertMissing(9, 8));
            due("the left row", 1, with(rowsForNine(0, 0), -1, 98).insertMissing(9, 8));
            due("the right row", 1, with(rowsForNine(0, 0), 99, -1).insertMissing(9, 8));
            due("none", 0, with(rowsForNine(0, 0), 99, 98).insertMissing(9, 8));
            due("none, with full tables", 0, States.full().insertMissing(9, 9));
            WhyNotJoin x = new WhyNotJoin();
            due("the first time", 2, x.insertMissing(1, 5));
            due("the second time", 0, x.insertMissing(1, 5));
        });
        sentence("INVALID if a or c is out of range", () -> {
            pairOutOfRange("insertMissing", WhyNotJoin::insertMissing, States::fresh, States::busy, States::full);
            pairOutOfRange("insertMissing, no b is possible", WhyNotJoin::insertMissing, () -> impossible(rows(10, 10)));
        });
        sentence("REJECTED if no b is possible", () -> {
            refused(REJECTED, "insertMissing(9, 5)", () -> impossible(rows(0, 0)), x -> x.insertMissing(9, 5));
            refused(REJECTED, "insertMissing(9, 5), full tables", () -> impossible(rows(10, 10)), x -> x.insertMissing(9, 5));
            refused(REJECTED, "insertMissing(1, 0)", States::busy, x -> x.insertMissing(1, 0));
            refused(REJECTED, "insertMissing(9, 5), the rows are there", () -> impossible(with(rows(0, 0), 91, 15)),
                    x -> x.insertMissing(9, 5));
        });
        sentence("FULL if a table that must get a row has 10 rows (then no row is inserted)", this::insertIntoFull);
    }

    /** The rows that are there behind the last ones of before; NONE where none was inserted. */
    private void insertsRows(String what, WhyNotJoin x, int a, int c, int left, int right) {
        int leftEnd = endOf(x, WhyNotJoin::leftRow);
        int rightEnd = endOf(x, WhyNotJoin::rightRow);
        x.insertMissing(a, c);
        due("the left row, " + what, left, x.leftRow(leftEnd));
        due("the right row, " + what, right, x.rightRow(rightEnd));
        due("a second left row, " + what, NONE, x.leftRow(leftEnd + 1));
        due("a second right row, " + what, NONE, x.rightRow(rightEnd + 1));
        due("blame, " + what, 9, x.blame(a, c));
    }

    private static int endOf(WhyNotJoin x, ArgumentCall row) {
        int end = 0;
        while (end < 10 && row.on(x, end) != NONE) {
            end++;
        }
        return end;
    }

    private void insertIntoFull() {
        refused(FULL, "both rows, both tables full", () -> rowsForNine(10, 10), x -> x.insertMissing(9, 8));
        refused(FULL, "both rows, the left table full", () -> rowsForNine(10, 0), x -> x.insertMissing(9, 8));
        refused(FULL, "both rows, the right table full", () -> rowsForNine(0, 10), x -> x.insertMissing(9, 8));
        refused(FULL, "the left row, the left table full", () -> with(rowsForNine(10, 0), -1, 98), x -> x.insertMissing(9, 8));
        refused(FULL, "the right row, the right table full", () -> with(rowsForNine(0, 10), 99, -1), x -> x.insertMissing(9, 8));
        due("the left row, the right table full", 1, with(rowsForNine(9, 9), -1, 98).insertMissing(9, 8));
        due("the right row, the left table full", 1, with(rowsForNine(9, 9), 99, -1).insertMissing(9, 8));
        due("both rows as the 10th", 2, rowsForNine(9, 9).insertMissing(9, 8));
        refused(FULL, "insertMissing(0, 9)", States::full, x -> x.insertMissing(0, 9));
        // The document names one b, missingB; that the right row of b = 3 would find room does not matter.
        refused(FULL, "the left row of b = 2, the left table full", () -> {
            WhyNotJoin x = rows(9, 0);
            return with(with(x, 93, -1), -1, 28);
        }, x -> x.insertMissing(9, 8));
    }

    /** The pair (4, 6) by b = 2 alone, with filters of which 0, 2 and 5 reject it. */
    private static WhyNotJoin threeAgainst() {
        WhyNotJoin x = States.sample();
        x.addFilter(LEFT, 1, UNEQUAL, 2);
        x.addFilter(JOIN, 1, 1, 1);
        x.addFilter(RIGHT, 0, EQUAL, 9);
        x.addFilter(JOIN, 1, 1, 3);
        x.addFilter(LEFT, 0, EQUAL, 4);
        x.addFilter(JOIN, 0, 0, -9);
        return x;
    }

    private static WhyNotJoin sixAgainst() {
        WhyNotJoin x = States.sample();
        for (int i = 0; i < 6; i++) {
            x.addFilter(JOIN, 1, 1, 13 + i);
        }
        return x;
    }

    private void loosen() {
        sentence("Removes the filters of filtersToRemove(a, c)", () -> {
            WhyNotJoin x = threeAgainst();
            due("filtersToRemove(4, 6)", 37, x.filtersToRemove(4, 6));
            x.loosen(4, 6);
            due("filterCount()", 3, x.filterCount());
            due("constant(0), filter 1 before", 1, x.constant(0));
            due("constant(1), filter 3 before", 3, x.constant(1));
            due("constant(2), filter 4 before", 4, x.constant(2));
            due("blame(4, 6)", 9, x.blame(4, 6));
            WhyNotJoin y = sixAgainst();
            y.loosen(1, 6);
            due("filterCount() after the removal of all", 0, y.filterCount());
        });
        sentence("Undoable", () -> {
            undoableAtEveryDepth(3, "loosen(4, 6)", RepairSentences::threeAgainst, x -> x.loosen(4, 6));
            undoableAtEveryDepth(6, "loosen(4, 6) of all six", RepairSentences::sixAgainst, x -> x.loosen(4, 6));
            undoableAtEveryDepth(0, "loosen(1, 5), present", States::busy, x -> x.loosen(1, 5));
            undoableAtEveryDepth(1, "loosen(8, 8)", States::full, x -> x.loosen(8, 8));
        });
        sentence("`a`: value of column a, 0 to 9", () -> {
            range("a", 0, 9, States::busy, (x, a) -> x.loosen(a, 5));
            range("a", 0, 9, States::fresh, (x, a) -> x.loosen(a, 0));
        });
        sentence("`c`: value of column c, 0 to 9", () -> {
            range("c", 0, 9, States::busy, (x, c) -> x.loosen(1, c));
            range("c", 0, 9, States::fresh, (x, c) -> x.loosen(9, c));
        });
        sentence("Returns the number of removed filters", () -> {
            for (int count = 0; count <= 6; count++) {
                WhyNotJoin x = States.sample();
                for (int i = 0; i < 6; i++) {
                    x.addFilter(JOIN, 1, i < count ? EQUAL : UNEQUAL, 18);
                }
                due("loosen(4, 6) with " + count + " against it", count, x.loosen(4, 6));
                due("filterCount()", 6 - count, x.filterCount());
            }
            due("loosen(0, 0) without filters", 0, States.fullTables().loosen(0, 0));
        });
        sentence("INVALID if a or c is out of range",
                () -> pairOutOfRange("loosen", WhyNotJoin::loosen, States::fresh, States::busy, States::full));
        sentence("REJECTED if filtersToRemove(a, c) is NONE", () -> {
            refused(REJECTED, "loosen(0, 0) of nothing", States::fresh, x -> x.loosen(0, 0));
            refused(REJECTED, "loosen(4, 9), no right row", States::busy, x -> x.loosen(4, 9));
            refused(REJECTED, "loosen(0, 5), no left row", States::busy, x -> x.loosen(0, 5));
            refused(REJECTED, "loosen(7, 8), no join", States::full, x -> x.loosen(7, 8));
        });
    }
}
