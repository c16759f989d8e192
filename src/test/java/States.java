/** The objects that the tests of the sentences start with. */
final class States {
    private States() {
    }

    static WhyNotJoin fresh() {
        return new WhyNotJoin();
    }

    /** The left table (1,2) (1,3) (4,2) and the right table (2,5) (3,6) (2,6): four pairs, (1,6) by two matches. */
    static WhyNotJoin sample() {
        WhyNotJoin x = new WhyNotJoin();
        x.addLeft(1, 2);
        x.addLeft(1, 3);
        x.addLeft(4, 2);
        x.addRight(2, 5);
        x.addRight(3, 6);
        x.addRight(2, 6);
        return x;
    }

    /** Some of everything: rows, three filters, two wishes, a text, errors of two kinds and saved states. */
    static WhyNotJoin busy() {
        WhyNotJoin x = sample();
        x.addFilter(0, 1, 1, 2);
        x.addFilter(2, 0, 1, -4);
        x.addFilter(1, 1, 3, 0);
        x.addWish(1, 5);
        x.addWish(4, 6);
        type(x, "w8 8;l8 8;");
        x.leftRow(-1);
        x.addLeft(1, 2);
        x.undo();
        x.addWish(4, 9);
        return x;
    }

    /** Every list has as much as it holds, and so has the text, a script of 60 commands. */
    static WhyNotJoin full() {
        WhyNotJoin x = fullLists();
        type(x, "e;".repeat(60));
        return x;
    }

    /** The full tables, six filters and four wishes; of the pairs (0,0) to (9,9) only (7,7) and (8,8) are missing. */
    static WhyNotJoin fullLists() {
        WhyNotJoin x = fullTables();
        x.addFilter(0, 0, 1, 0);
        x.addFilter(1, 1, 0, 9);
        x.addFilter(2, 0, 0, 18);
        x.addFilter(2, 1, 1, -9);
        x.addFilter(2, 2, 3, 7);
        x.addFilter(0, 1, 3, 8);
        x.addWish(0, 0);
        x.addWish(8, 8);
        x.addWish(7, 7);
        x.addWish(1, 2);
        return x;
    }

    /** Both tables have the rows (0,0) to (9,9). */
    static WhyNotJoin fullTables() {
        return withRightRows(10, withLeftRows(10, new WhyNotJoin()));
    }

    static WhyNotJoin withLeftRows(int count, WhyNotJoin x) {
        for (int i = 0; i < count; i++) {
            x.addLeft(i, i);
        }
        return x;
    }

    static WhyNotJoin withRightRows(int count, WhyNotJoin x) {
        for (int i = 0; i < count; i++) {
            x.addRight(i, i);
        }
        return x;
    }

    /** Filters that accept everything, with the constants -9, -8 and so on. */
    static WhyNotJoin withFilters(int count, WhyNotJoin x) {
        for (int i = 0; i < count; i++) {
            x.addFilter(2, 1, 1, i - 9);
        }
        return x;
    }

    /** The wishes (0,1), (1,2) and so on. */
    static WhyNotJoin withWishes(int count, WhyNotJoin x) {
        for (int i = 0; i < count; i++) {
            x.addWish(i, i + 1);
        }
        return x;
    }

    /** The same object, with just so many saved states, which are all like it. */
    static WhyNotJoin withSaved(int count, WhyNotJoin x) {
        for (int i = 0; i < 5; i++) {
            saveUnchanged(x);
        }
        for (int i = 5; i > count; i--) {
            x.undo();
        }
        return x;
    }

    /** Saves the state by a call that leaves it unchanged; wishes need a filter or an answer beside them. */
    private static void saveUnchanged(WhyNotJoin x) {
        if (x.filterCount() > 0) {
            x.setConstant(0, x.constant(0));
        } else if (x.answerCount() > 0) {
            x.loosen(x.answer(0) / 10, x.answer(0) % 10);
        } else {
            x.clearWishes();
        }
    }

    static WhyNotJoin withText(String text) {
        WhyNotJoin x = new WhyNotJoin();
        type(x, text);
        return x;
    }

    static void type(WhyNotJoin x, String text) {
        for (int i = 0; i < text.length(); i++) {
            x.append(text.charAt(i));
        }
    }

    /** Runs this text alone. */
    static int script(WhyNotJoin x, String text) {
        x.clearText();
        type(x, text);
        return x.runScript();
    }
}
