/** Promises 24 to 27. */
final class WishSentences extends SentenceGroup {
    private static final int JOIN = 2;
    private static final int UNEQUAL = 3;

    WishSentences(Sentences sentences) {
        super(sentences);
    }

    @Override
    void run() {
        place("Promise 24");
        addWish();
        place("Promise 25");
        clearWishes();
        place("Promise 26");
        satisfiedWishes();
        place("Promise 27");
        filtersToRemoveForWishes();
    }

    private static Setup wishes(int count) {
        return () -> States.withWishes(count, States.withFilters(1, new WhyNotJoin()));
    }

    private void addWish() {
        sentence("Adds the pair (a, c) to the wish list", () -> {
            WhyNotJoin x = new WhyNotJoin();
            x.addWish(3, 7);
            due("digest() of one wish", Hash.of(0, 0, 0, 0, 1, 0, 0, 0, 0, 1, 37, 0, NONE, 2, 0, NONE), x.digest());
            x.addWish(0, 9);
            due("digest() of two wishes", Hash.of(0, 0, 0, 0, 2, 0, 0, 0, 0, 2, 37, 0, NONE, 2, 0, 9, 0, NONE, 2, 0, NONE),
                    x.digest());
        });
        sentence("Undoable", () -> {
            undoableAtEveryDepth(1, "addWish(0, 0), the first", States::fresh, x -> x.addWish(0, 0));
            undoableAtEveryDepth(3, "addWish(9, 9)", States::busy, x -> x.addWish(9, 9));
            undoableAtEveryDepth(4, "addWish(9, 9), the 4th", wishes(3), x -> x.addWish(9, 9));
        });
        sentence("`a`: value of column a, 0 to 9", () -> {
            range("a", 0, 9, States::busy, (x, a) -> x.addWish(a, 5));
            range("a", 0, 9, States::fresh, (x, a) -> x.addWish(a, 0));
        });
        sentence("`c`: value of column c, 0 to 9", () -> {
            range("c", 0, 9, States::busy, (x, c) -> x.addWish(1, c));
            range("c", 0, 9, States::fresh, (x, c) -> x.addWish(9, c));
        });
        sentence("Returns the new number of wishes", () -> {
            WhyNotJoin x = States.fullTables();
            for (int i = 1; i <= 4; i++) {
                due("addWish", i, x.addWish(i, i));
            }
            x.clearWishes();
            due("addWish after clearWishes()", 1, x.addWish(1, 1));
        });
        sentence("INVALID if a or c is out of range",
                () -> pairOutOfRange("addWish", WhyNotJoin::addWish, States::fresh, States::busy, States::full));
        sentence("REJECTED if the pair is already on the list", () -> {
            for (int i = 0; i < 4; i++) {
                int a = i;
                refused(REJECTED, "addWish of the last wish", wishes(i + 1), x -> x.addWish(a, a + 1));
                refused(REJECTED, "addWish of wish " + i + " of 4", wishes(4), x -> x.addWish(a, a + 1));
            }
            due("addWish of a row that is no wish", 1, States.fullTables().addWish(3, 3));
            due("addWish(1, 0), the other way about", 2, wishes(1).make().addWish(1, 0));
        });
        sentence("FULL if the list has 4 wishes", () -> {
            refused(FULL, "addWish(9, 9) as the 5th", wishes(4), x -> x.addWish(9, 9));
            refused(FULL, "addWish(0, 9) as the 5th", States::full, x -> x.addWish(0, 9));
            due("addWish(9, 9) as the 4th", 4, wishes(3).make().addWish(9, 9));
        });
    }

    private void clearWishes() {
        sentence("Removes all wishes", () -> {
            for (int count = 0; count <= 4; count++) {
                WhyNotJoin x = wishes(count).make();
                x.clearWishes();
                due("clearWishes() again", 0, x.clearWishes());
                due("addWish(0, 1), which was the first", 1, x.addWish(0, 1));
            }
            WhyNotJoin y = States.full();
            y.clearWishes();
            due("the rows stay", 99, y.leftRow(9));
            due("the filters stay", 6, y.filterCount());
            due("the text stays", 120, y.clearText());
        });
        sentence("Undoable", () -> {
            undoableAtEveryDepth(0, "clearWishes() of none", States::fresh, WhyNotJoin::clearWishes);
            undoableAtEveryDepth(2, "clearWishes()", States::busy, WhyNotJoin::clearWishes);
            undoableAtEveryDepth(4, "clearWishes() of 4", States::full, WhyNotJoin::clearWishes);
        });
        sentence("Returns the number of wishes that were removed", () -> {
            for (int count = 0; count <= 4; count++) {
                due("clearWishes()", count, wishes(count).make().clearWishes());
            }
            WhyNotJoin x = wishes(4).make();
            x.addWish(9, 9);
            due("clearWishes() after a 5th", 4, x.clearWishes());
        });
    }

    private void satisfiedWishes() {
        sentence("Counts the wishes that are in the result", () -> {
            WhyNotJoin x = States.sample();
            x.addWish(1, 6);
            due("one wish with two matches", 1, x.satisfiedWishes());
            x.addWish(4, 9);
            due("a wish that is not in the result", 1, x.satisfiedWishes());
            x.addFilter(0, 0, 2, 4);
            due("a filter drops the first", 0, x.satisfiedWishes());
            x.insertMissing(4, 9);
            due("the second comes in", 1, x.satisfiedWishes());
        });
        sentence("Returns 0 to 4", () -> {
            for (int count = 0; count <= 4; count++) {
                WhyNotJoin x = States.fullTables();
                for (int i = 0; i < 4; i++) {
                    x.addWish(i == 3 ? 9 : i, i < count ? (i == 3 ? 9 : i) : 5);
                }
                due("satisfiedWishes()", count, x.satisfiedWishes());
            }
            onlyAnswers(0, "satisfiedWishes() of none", States::fresh, WhyNotJoin::satisfiedWishes);
            onlyAnswers(1, "satisfiedWishes()", States::busy, WhyNotJoin::satisfiedWishes);
            onlyAnswers(1, "satisfiedWishes()", States::full, WhyNotJoin::satisfiedWishes);
        });
    }

    /** The pair (1, 5) by b = 1 and 3, the pair (2, 6) by b = 2 and 3; no filters yet. */
    private static WhyNotJoin twoPairs() {
        WhyNotJoin x = new WhyNotJoin();
        x.addLeft(1, 1);
        x.addLeft(1, 3);
        x.addLeft(2, 2);
        x.addLeft(2, 3);
        x.addRight(1, 5);
        x.addRight(3, 5);
        x.addRight(2, 6);
        x.addRight(3, 6);
        x.addWish(1, 5);
        x.addWish(2, 6);
        return x;
    }

    private static void against(WhyNotJoin x, int... values) {
        for (int b : values) {
            x.addFilter(JOIN, 2, UNEQUAL, b);
        }
    }

    private void filtersToRemoveForWishes() {
        sentence("Finds a smallest set of filters whose removal puts every wish into the result", () -> {
            WhyNotJoin x = twoPairs();
            against(x, 1, 2);
            due("b = 3 is free", 0, x.filtersToRemoveForWishes());
            against(x, 3);
            due("one filter for both wishes", 4, x.filtersToRemoveForWishes());
            due("filtersToRemove(1, 5), for one wish alone", 1, x.filtersToRemove(1, 5));
            due("filtersToRemove(2, 6), for one wish alone", 2, x.filtersToRemove(2, 6));
            WhyNotJoin y = twoPairs();
            against(y, 1, 2, 3, 3, 3);
            due("two filters, not three", 3, y.filtersToRemoveForWishes());
            WhyNotJoin z = twoPairs();
            against(z, 1, 2, 3);
            z.addFilter(JOIN, 1, 0, 5);
            z.addFilter(JOIN, 1, 0, 5);
            z.addFilter(JOIN, 1, 0, 5);
            due("with three against all", 60, z.filtersToRemoveForWishes());
        });
        sentence("Ties are decided as in filtersToRemove()", () -> {
            WhyNotJoin x = twoPairs();
            against(x, 1, 2, 3, 3);
            due("1 + 2 before 4 + 8", 3, x.filtersToRemoveForWishes());
            WhyNotJoin y = twoPairs();
            against(y, 3, 3, 2, 1);
            due("1 + 2 before 4 + 8, the other way about", 3, y.filtersToRemoveForWishes());
            WhyNotJoin z = twoPairs();
            against(z, 1, 3, 3, 2);
            due("2 + 4 before 1 + 8", 6, z.filtersToRemoveForWishes());
        });
        sentence("The empty set (0) is returned if there are no wishes", () -> {
            onlyAnswers(0, "of a new object", States::fresh, WhyNotJoin::filtersToRemoveForWishes);
            for (int count = 1; count <= 4; count++) {
                WhyNotJoin y = wishes(count).make();
                due("with " + count + " wishes that are never in the result", NONE, y.filtersToRemoveForWishes());
                y.clearWishes();
                due("after they were cleared", 0, y.filtersToRemoveForWishes());
            }
            onlyAnswers(0, "with rows and filters", () -> {
                WhyNotJoin x = States.full();
                x.clearWishes();
                return x;
            }, WhyNotJoin::filtersToRemoveForWishes);
        });
        sentence("This method changes nothing", () -> {
            onlyAnswers(48, "with wishes (0,0), (7,7), (8,8)", WishSentences::fullWithoutTheLastWish,
                    WhyNotJoin::filtersToRemoveForWishes);
            onlyAnswers(4, "with two wishes", () -> {
                WhyNotJoin x = twoPairs();
                against(x, 1, 2, 3);
                return x;
            }, WhyNotJoin::filtersToRemoveForWishes);
        });
        sentence("Returns the set as a bit mask", () -> {
            for (int set = 0; set < 64; set++) {
                WhyNotJoin x = twoPairs();
                for (int i = 0; i < 6; i++) {
                    x.addFilter(JOIN, 1, (set >> i & 1) == 1 ? 2 : UNEQUAL, 18);
                }
                due("filtersToRemoveForWishes()", set, x.filtersToRemoveForWishes());
            }
        });
        sentence("NONE if some wish is not in the result even without any filter", () -> {
            onlyAnswers(NONE, "no rows", () -> States.withWishes(1, new WhyNotJoin()), WhyNotJoin::filtersToRemoveForWishes);
            onlyAnswers(NONE, "the last of four", States::full, WhyNotJoin::filtersToRemoveForWishes);
            onlyAnswers(NONE, "the second of two", States::busy, WhyNotJoin::filtersToRemoveForWishes);
            WhyNotJoin x = States.fullTables();
            x.addWish(1, 2);
            x.addWish(3, 3);
            due("the first of two", NONE, x.filtersToRemoveForWishes());
            x.clearWishes();
            x.addWish(3, 3);
            for (int i = 0; i < 3; i++) {
                x.addWish(i, i + 1);
                due("the last of two", NONE, x.filtersToRemoveForWishes());
                x.undo();
                due("without it", 0, x.filtersToRemoveForWishes());
                x.addWish(i, i);
            }
        });
    }

    private static WhyNotJoin fullWithoutTheLastWish() {
        WhyNotJoin x = States.full();
        x.undo();
        return x;
    }
}
