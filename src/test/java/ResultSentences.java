/** Promises 14 to 16. */
final class ResultSentences extends SentenceGroup {
    ResultSentences(Sentences sentences) {
        super(sentences);
    }

    @Override
    void run() {
        place("Promise 14");
        answerCount();
        place("Promise 15");
        answer();
        place("Promise 16");
        matchCount();
    }

    /** The first so many of the 100 pairs that ten left rows and ten right rows of one b yield. */
    private static WhyNotJoin answers(int left, int right) {
        WhyNotJoin x = new WhyNotJoin();
        for (int i = 0; i < left; i++) {
            x.addLeft(i, 6);
        }
        for (int i = 0; i < right; i++) {
            x.addRight(6, i);
        }
        return x;
    }

    /** So many matches, each by a b of its own, of the one pair (3, 8). */
    private static WhyNotJoin matches(int count) {
        WhyNotJoin x = new WhyNotJoin();
        for (int b = 0; b < count; b++) {
            x.addLeft(3, b);
            x.addRight(b, 8);
        }
        return x;
    }

    private void answerCount() {
        sentence("Returns the size of the result of the query", () -> {
            for (int left = 0; left <= 10; left += 5) {
                for (int right = 0; right <= 10; right += 2) {
                    int l = left;
                    int r = right;
                    onlyAnswers(left * right, "answerCount()", () -> answers(l, r), WhyNotJoin::answerCount);
                }
            }
            onlyAnswers(8, "answerCount() of the full state", States::full, WhyNotJoin::answerCount);
        });
        sentence("Returns the number of distinct pairs (a, c)", () -> {
            for (int count = 0; count <= 10; count++) {
                due("answerCount() of " + count + " matches", Math.min(count, 1), matches(count).answerCount());
            }
        });
    }

    private void answer() {
        sentence("Returns an element of the sorted result as 10 * a + c", () -> {
            WhyNotJoin x = new WhyNotJoin();
            x.addLeft(9, 1);
            x.addLeft(0, 1);
            x.addRight(1, 9);
            x.addRight(1, 0);
            int[] pairs = {0, 9, 90, 99};
            for (int i = 0; i < 4; i++) {
                due("answer(" + i + ")", pairs[i], x.answer(i));
            }
        });
        sentence("`index`: position in the result, 0 or more", () -> {
            zeroOrMore("answer", States::fresh, WhyNotJoin::answer);
            zeroOrMore("answer", States::busy, WhyNotJoin::answer);
            zeroOrMore("answer", () -> answers(10, 10), WhyNotJoin::answer);
        });
        sentence("Returns 10 * a + c", () -> {
            onlyAnswers(0, "answer(0) of all pairs", () -> answers(10, 10), x -> x.answer(0));
            onlyAnswers(99, "answer(99) of all pairs", () -> answers(10, 10), x -> x.answer(99));
            onlyAnswers(99, "answer(7), the last", States::full, x -> x.answer(7));
        });
        sentence("NONE if index is not below the size of the result", () -> {
            onlyAnswers(NONE, "answer(0) of none", States::fresh, x -> x.answer(0));
            onlyAnswers(NONE, "answer(1) of one", () -> answers(1, 1), x -> x.answer(1));
            due("answer(0) of one", 0, answers(1, 1).answer(0));
            onlyAnswers(NONE, "answer(1) of ten matches of one pair", () -> matches(10), x -> x.answer(1));
            onlyAnswers(NONE, "answer(8) of eight", States::full, x -> x.answer(8));
            onlyAnswers(NONE, "answer(100) of all pairs", () -> answers(10, 10), x -> x.answer(100));
            onlyAnswers(NONE, "answer(max)", () -> answers(10, 10), x -> x.answer(MAX));
        });
        sentence("INVALID if index is negative", () -> {
            refusedInAll(INVALID, "answer(-1)", x -> x.answer(-1), States::fresh, States::busy, States::full);
            refusedInAll(INVALID, "answer(min)", x -> x.answer(MIN), States::fresh, States::busy, States::full);
        });
    }

    private void matchCount() {
        sentence("Counts the matches that yield the pair (a, c)", () -> {
            WhyNotJoin x = States.sample();
            due("matchCount(1, 6)", 2, x.matchCount(1, 6));
            due("matchCount(1, 5)", 1, x.matchCount(1, 5));
            due("matchCount(4, 6)", 1, x.matchCount(4, 6));
            due("matchCount(6, 1)", 0, x.matchCount(6, 1));
            x.addFilter(0, 1, 3, 2);
            due("matchCount(1, 6), a left row drops out", 1, x.matchCount(1, 6));
            x.addFilter(1, 0, 3, 3);
            due("matchCount(1, 6), a right row drops out", 0, x.matchCount(1, 6));
        });
        sentence("`a`: value of column a, 0 to 9",
                () -> range("a", 0, 9, States::busy, (x, a) -> x.matchCount(a, 5)));
        sentence("`c`: value of column c, 0 to 9",
                () -> range("c", 0, 9, States::busy, (x, c) -> x.matchCount(1, c)));
        sentence("Returns the number of matches", () -> {
            for (int i = 0; i <= 10; i++) {
                int count = i;
                onlyAnswers(count, "matchCount(3, 8)", () -> matches(count), x -> x.matchCount(3, 8));
            }
            onlyAnswers(1, "matchCount(0, 0)", States::full, x -> x.matchCount(0, 0));
            onlyAnswers(1, "matchCount(9, 9)", States::full, x -> x.matchCount(9, 9));
            onlyAnswers(0, "matchCount(0, 9)", States::full, x -> x.matchCount(0, 9));
            onlyAnswers(0, "matchCount(0, 0) of nothing", States::fresh, x -> x.matchCount(0, 0));
        });
        sentence("INVALID if a or c is out of range",
                () -> pairOutOfRange("matchCount", WhyNotJoin::matchCount, States::fresh, States::busy, States::full));
    }
}
