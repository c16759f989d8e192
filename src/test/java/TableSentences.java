/** TABLES and promises 1 to 7; what is said of both tables is tested for both in the same way. */
final class TableSentences extends SentenceGroup {
    /** One of the two tables, and the words with which the document tells of it. */
    private record Table(String side, String columns, String first, String second, PairCall add, ArgumentCall remove,
            ArgumentCall row) {
        Setup withRows(int count) {
            return () -> fill(count, new WhyNotJoin());
        }

        /** Adds the rows (0,0), (1,1) and so on. */
        WhyNotJoin fill(int count, WhyNotJoin x) {
            for (int i = 0; i < count; i++) {
                add.on(x, i, i);
            }
            return x;
        }
    }

    private static final Table LEFT = new Table("left", "(a, b)", "a", "b", WhyNotJoin::addLeft, WhyNotJoin::removeLeft,
            WhyNotJoin::leftRow);
    private static final Table RIGHT = new Table("right", "(b, c)", "b", "c", WhyNotJoin::addRight,
            WhyNotJoin::removeRight, WhyNotJoin::rightRow);

    TableSentences(Sentences sentences) {
        super(sentences);
    }

    @Override
    void run() {
        place("TABLES");
        tables();
        place("Promise 1");
        newObject();
        place("Promise 2");
        addRow("addLeft", LEFT, RIGHT);
        place("Promise 3");
        addRow("addRight", RIGHT, LEFT);
        place("Promise 4");
        removeRow("removeLeft", LEFT, RIGHT);
        place("Promise 5");
        removeRow("removeRight", RIGHT, LEFT);
        place("Promise 6");
        readRow("leftRow", LEFT);
        place("Promise 7");
        readRow("rightRow", RIGHT);
    }

    private void tables() {
        sentence("The left table holds rows (a, b)", () -> holdsRows(LEFT, RIGHT));
        sentence("The right table holds rows (b, c)", () -> holdsRows(RIGHT, LEFT));
        sentence("All three columns are integers from 0 to 9", () -> {
            takesAllRows(LEFT);
            takesAllRows(RIGHT);
        });
        sentence("A table holds at most 10 rows and no row twice", () -> {
            holdsTenRows(LEFT, RIGHT);
            holdsTenRows(RIGHT, LEFT);
        });
        sentence("Rows are indexed from 0 in the order in which they were added", () -> {
            keepsOrder(LEFT);
            keepsOrder(RIGHT);
        });
        sentence("Removing a row moves each later row of that table down by one index", () -> {
            movesLaterRows(LEFT, RIGHT);
            movesLaterRows(RIGHT, LEFT);
        });
    }

    private void holdsRows(Table table, Table other) {
        WhyNotJoin x = new WhyNotJoin();
        table.add.on(x, 3, 7);
        due("the " + table.side + " row", 37, table.row.on(x, 0));
        due("a second " + table.side + " row", NONE, table.row.on(x, 1));
        due("a row of the other table", NONE, other.row.on(x, 0));
    }

    private void takesAllRows(Table table) {
        for (int row = 0; row < 100; row++) {
            WhyNotJoin x = new WhyNotJoin();
            due("the first " + table.side + " row, " + row, 1, table.add.on(x, row / 10, row % 10));
            due("the " + table.side + " row", row, table.row.on(x, 0));
        }
        for (int wrong : new int[] {-1, 10}) {
            for (int right = 0; right < 10; right++) {
                int good = right;
                refused(INVALID, table.side + " row " + wrong + ", " + good, States::fresh, x -> table.add.on(x, wrong, good));
                refused(INVALID, table.side + " row " + good + ", " + wrong, States::fresh, x -> table.add.on(x, good, wrong));
            }
        }
    }

    private void holdsTenRows(Table table, Table other) {
        WhyNotJoin x = table.withRows(9).make();
        due("the 10th " + table.side + " row", 10, table.add.on(x, 9, 9));
        due("an 11th " + table.side + " row", FULL, table.add.on(x, 9, 8));
        due("index 10", NONE, table.row.on(x, 10));
        for (int i = 0; i < 10; i++) {
            due("row " + i + " a second time", REJECTED, table.add.on(x, i, i));
        }
        due("the same row in the other table", 1, other.add.on(x, 9, 9));
        due("the row that was FULL in the other table", 2, other.add.on(x, 9, 8));
        table.remove.on(x, 4);
        due("a 10th row after a removal", 10, table.add.on(x, 9, 8));
        due("an 11th row, one that was removed", FULL, table.add.on(x, 4, 4));
        table.remove.on(x, 9);
        due("a removed row again", 10, table.add.on(x, 4, 4));
        due("the same with its columns changed about is another row", 2, table.add.on(firstRow(table, 3, 7), 7, 3));
        due("a removed row in a table with room", 1, table.add.on(withoutRow(firstRow(table, 3, 7), table), 3, 7));
    }

    private static WhyNotJoin firstRow(Table table, int first, int second) {
        WhyNotJoin x = new WhyNotJoin();
        table.add.on(x, first, second);
        return x;
    }

    private static WhyNotJoin withoutRow(WhyNotJoin x, Table table) {
        table.remove.on(x, 0);
        return x;
    }

    private void keepsOrder(Table table) {
        int[] rows = {99, 0, 50, 5, 95, 49, 1, 10, 90, 9};
        WhyNotJoin x = new WhyNotJoin();
        for (int row : rows) {
            table.add.on(x, row / 10, row % 10);
        }
        for (int i = 0; i < rows.length; i++) {
            due(table.side + " row " + i, rows[i], table.row.on(x, i));
        }
    }

    private void movesLaterRows(Table table, Table other) {
        for (int removed = 0; removed < 10; removed++) {
            WhyNotJoin x = table.withRows(10).make();
            other.fill(10, x);
            table.remove.on(x, removed);
            for (int i = 0; i < 10; i++) {
                int row = i < removed ? 11 * i : i < 9 ? 11 * (i + 1) : NONE;
                due(table.side + " row " + i + " without row " + removed, row, table.row.on(x, i));
                due(other.side + " row " + i, 11 * i, other.row.on(x, i));
            }
        }
    }

    private void newObject() {
        sentence("Creates an explainer with empty tables, no filters, no wishes, an empty text buffer"
                + " and an empty undo stack", () -> {
            due("leftRow(0)", NONE, States.fresh().leftRow(0));
            due("rightRow(0)", NONE, States.fresh().rightRow(0));
            due("removeLeft(0)", INVALID, States.fresh().removeLeft(0));
            due("removeRight(0)", INVALID, States.fresh().removeRight(0));
            due("filterCount()", 0, States.fresh().filterCount());
            due("clearWishes()", 0, States.fresh().clearWishes());
            due("clearText()", 0, States.fresh().clearText());
            due("append(0)", 1, States.fresh().append(0));
            due("runScript()", -10, States.fresh().runScript());
            due("undo()", REJECTED, States.fresh().undo());
            for (int kind = 0; kind < 3; kind++) {
                due("errorCount(" + kind + ")", 0, States.fresh().errorCount(kind));
            }
            due("digest()", Hash.of(0, 0, 0, 0, 0, 0, 0, 0, 0, 0, 0), States.fresh().digest());
            States.full();
            due("digest() when another object is full", Hash.of(0, 0, 0, 0, 0, 0, 0, 0, 0, 0, 0), States.fresh().digest());
        });
    }

    private void addRow(String name, Table table, Table other) {
        sentence("Adds the row " + table.columns + " to the " + table.side + " table", () -> {
            WhyNotJoin x = States.sample();
            table.add.on(x, 0, 9);
            due("the new row, the last", 9, table.row.on(x, 3));
            due("behind it", NONE, table.row.on(x, 4));
            due("the other table", NONE, other.row.on(x, 3));
        });
        sentence("Undoable", () -> {
            undoableAtEveryDepth(1, name + "(0, 9)", States::fresh, x -> table.add.on(x, 0, 9));
            undoableAtEveryDepth(4, name + "(0, 9)", States::busy, x -> table.add.on(x, 0, 9));
            undoableAtEveryDepth(10, name + "(9, 9), the 10th", table.withRows(9), x -> table.add.on(x, 9, 9));
        });
        sentence("`" + table.first + "`: value of column " + table.first + ", 0 to 9",
                () -> range(table.first, 0, 9, States::fresh, (x, value) -> table.add.on(x, value, 5)));
        sentence("`" + table.second + "`: value of column " + table.second + ", 0 to 9",
                () -> range(table.second, 0, 9, States::fresh, (x, value) -> table.add.on(x, 5, value)));
        sentence("Returns the new number of " + table.side + " rows", () -> {
            WhyNotJoin x = new WhyNotJoin();
            other.fill(3, x);
            for (int i = 0; i < 10; i++) {
                due(name + "(" + i + ", 4)", i + 1, table.add.on(x, i, 4));
            }
        });
        sentence("INVALID if " + table.first + " or " + table.second + " is out of range",
                () -> pairOutOfRange(name, table.add, States::fresh, States::busy, States::full));
        sentence("REJECTED if the row is already there", () -> {
            for (int i = 0; i < 10; i++) {
                int v = i;
                refused(REJECTED, name + " of row " + i, States::full, x -> table.add.on(x, v, v));
                refused(REJECTED, name + " of the last row", table.withRows(i + 1), x -> table.add.on(x, v, v));
            }
            due(name + " of a row of the other table", 1, table.add.on(other.withRows(5).make(), 4, 4));
        });
        sentence("FULL if the " + table.side + " table has 10 rows", () -> {
            refusedInAll(FULL, name + "(0, 1)", x -> table.add.on(x, 0, 1), table.withRows(10), States::full);
            refusedInAll(FULL, name + "(9, 0)", x -> table.add.on(x, 9, 0), table.withRows(10), States::full);
            due(name + "(0, 1) as the 10th", 10, table.add.on(table.withRows(9).make(), 0, 1));
            due(name + "(0, 1) when the other table is full", 1, table.add.on(other.withRows(10).make(), 0, 1));
        });
    }

    private void removeRow(String name, Table table, Table other) {
        sentence("Removes a row of the " + table.side + " table", () -> {
            WhyNotJoin x = States.full();
            table.remove.on(x, 3);
            due("what was row 4", 44, table.row.on(x, 3));
            due("row 9", NONE, table.row.on(x, 9));
            due("the other table", 99, other.row.on(x, 9));
            due("the pair of that row", 0, x.matchCount(3, 3));
        });
        sentence("Undoable", () -> {
            undoableAtEveryDepth(2, name + "(0)", States::busy, x -> table.remove.on(x, 0));
            undoableAtEveryDepth(0, name + "(0) of the only row", table.withRows(1), x -> table.remove.on(x, 0));
            undoableAtEveryDepth(9, name + "(0) of 10", table.withRows(10), x -> table.remove.on(x, 0));
            undoableAtEveryDepth(9, name + "(9) of 10", States::full, x -> table.remove.on(x, 9));
        });
        sentence("`index`: index of an existing " + table.side + " row", () -> {
            for (int size : new int[] {1, 2, 9, 10}) {
                indexOfExisting(name, size, table.withRows(size), table.remove);
            }
        });
        sentence("Returns the new number of " + table.side + " rows", () -> {
            WhyNotJoin x = other.fill(5, table.withRows(10).make());
            for (int left = 9; left >= 0; left--) {
                due(name + "(" + left / 2 + ")", left, table.remove.on(x, left / 2));
            }
        });
        sentence("INVALID if there is no such row", () -> {
            for (int index : new int[] {0, -1, 1, 9, 10, MIN, MAX}) {
                refused(INVALID, name + "(" + index + ") of none", States::fresh, x -> table.remove.on(x, index));
                refused(INVALID, name + "(" + index + ") of none", other.withRows(10), x -> table.remove.on(x, index));
            }
            refused(INVALID, name + "(3) of 3", States::busy, x -> table.remove.on(x, 3));
            refused(INVALID, name + "(10) of 10", States::full, x -> table.remove.on(x, 10));
            refused(INVALID, name + "(9) after a removal", () -> shrunk(table), x -> table.remove.on(x, 9));
        });
    }

    private static WhyNotJoin shrunk(Table table) {
        WhyNotJoin x = table.withRows(10).make();
        table.remove.on(x, 0);
        return x;
    }

    private void readRow(String name, Table table) {
        String value = "10 * " + table.first + " + " + table.second;
        sentence("Returns a " + table.side + " row as " + value, () -> {
            for (int row : new int[] {0, 9, 90, 99, 12, 21}) {
                WhyNotJoin x = firstRow(table, row / 10, row % 10);
                due(name + "(0)", row, table.row.on(x, 0));
            }
        });
        sentence("`index`: index of the row, 0 or more", () -> {
            zeroOrMore(name, States::fresh, table.row);
            zeroOrMore(name, States::busy, table.row);
            zeroOrMore(name, States::full, table.row);
        });
        sentence("Returns " + value, () -> {
            for (int i = 0; i < 10; i++) {
                int index = i;
                onlyAnswers(11 * i, name + "(" + i + ")", States::full, x -> table.row.on(x, index));
            }
        });
        sentence("NONE if index is not below the number of " + table.side + " rows", () -> {
            for (int size = 0; size <= 10; size++) {
                int rows = size;
                onlyAnswers(NONE, name + "(" + size + ")", table.withRows(size), x -> table.row.on(x, rows));
                onlyAnswers(NONE, name + "(max) of " + size, table.withRows(size), x -> table.row.on(x, MAX));
                if (size > 0) {
                    due(name + " of the last", 11 * (size - 1), table.row.on(table.withRows(size).make(), size - 1));
                }
            }
            onlyAnswers(NONE, name + "(9) after a removal", () -> shrunk(table), x -> table.row.on(x, 9));
        });
        sentence("INVALID if index is negative", () -> {
            refusedInAll(INVALID, name + "(-1)", x -> table.row.on(x, -1), States::fresh, States::busy, States::full);
            refusedInAll(INVALID, name + "(min)", x -> table.row.on(x, MIN), States::fresh, States::busy, States::full);
        });
    }
}
