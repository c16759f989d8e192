import java.util.ArrayList;
import java.util.List;
import java.util.Random;

/**
 * States in which explanations and repairs are hard: tables that join well, many filters, wishes that the filters
 * drop. Runs of calls chosen at random seldom come there. Every answer is compared with the Model's.
 */
public final class RichStatesTest {
    private static final int STATES = 1500;
    /** Building, asking, changing and undoing together stay under the 512 calls for which an object is promised. */
    private static final int PAIRS_ASKED = 30;
    private static final int MAX_ROWS = 10, MAX_FILTERS = 6, MAX_WISHES = 4;

    private final Checks checks;
    private final int seed;
    private final Random random;
    private final int spread;
    private final WhyNotJoin program = new WhyNotJoin();
    private final Model model = new Model();
    private final List<String> built = new ArrayList<>();
    private final List<int[]> joined = new ArrayList<>();
    private boolean right = true;

    private RichStatesTest(Checks checks, int seed) {
        this.checks = checks;
        this.seed = seed;
        random = new Random(7919L * seed);
        // With few values the rows meet, and a pair has several values of b to choose from.
        spread = 3 + random.nextInt(4);
    }

    public static void main(String[] args) {
        Checks checks = new Checks("RichStatesTest");
        for (int seed = 1; seed <= STATES; seed++) {
            new RichStatesTest(checks, seed).run();
        }
        checks.end();
    }

    private void run() {
        fillTables();
        listJoinedPairs();
        addFilters();
        addWishes();
        askAboutAll();
        for (int i = 0; i < PAIRS_ASKED; i++) {
            askAbout(pairToAskAbout());
        }
        repairAndUndo();
        if (!right) {
            System.out.println("    state " + seed + " was built by " + built);
        }
    }

    private void same(String call, long due, long got) {
        right &= checks.same("state " + seed + ", " + call, due, got);
    }

    private void build(String call, long due, long got) {
        built.add(call);
        same(call, due, got);
    }

    private void fillTables() {
        int tries = 8 + random.nextInt(20);
        for (int i = 0; i < tries; i++) {
            int x = random.nextInt(spread);
            int y = random.nextInt(spread);
            if (i % 2 == 0) {
                build("addLeft(" + x + ", " + y + ")", model.addLeft(x, y), program.addLeft(x, y));
            } else {
                build("addRight(" + x + ", " + y + ")", model.addRight(x, y), program.addRight(x, y));
            }
        }
    }

    /** The pairs that the query returns as long as it has no filter. */
    private void listJoinedPairs() {
        int answers = model.answerCount();
        for (int i = 0; i < answers; i++) {
            joined.add(new int[] {model.answer(i) / 10, model.answer(i) % 10});
        }
    }

    private void addFilters() {
        int filters = 1 + random.nextInt(MAX_FILTERS);
        for (int i = 0; i < filters; i++) {
            int stage = random.nextInt(3);
            int column = random.nextInt(stage == 2 ? 3 : 2);
            int operator = random.nextInt(4);
            int constant = constantThatBites(stage, column);
            build("addFilter(" + stage + ", " + column + ", " + operator + ", " + constant + ")",
                    model.addFilter(stage, column, operator, constant),
                    program.addFilter(stage, column, operator, constant));
        }
    }

    /** Mostly one between the values that the column has; sometimes any, so that a repair must go far. */
    private int constantThatBites(int stage, int column) {
        if (random.nextInt(6) == 0) {
            return stage == 2 ? random.nextInt(28) - 9 : random.nextInt(10);
        }
        if (stage == 2 && column == 0) {
            return random.nextInt(2 * spread - 1) - (spread - 1);
        }
        return random.nextInt(stage == 2 && column == 1 ? 2 * spread - 1 : spread);
    }

    private void addWishes() {
        int wishes = 1 + random.nextInt(MAX_WISHES);
        for (int i = 0; i < wishes; i++) {
            int[] pair = pairToAskAbout();
            build("addWish(" + pair[0] + ", " + pair[1] + ")", model.addWish(pair[0], pair[1]),
                    program.addWish(pair[0], pair[1]));
        }
    }

    private int[] pairToAskAbout() {
        if (joined.isEmpty() || random.nextInt(12) == 0) {
            return new int[] {random.nextInt(spread + 1), random.nextInt(spread + 1)};
        }
        return joined.get(random.nextInt(joined.size()));
    }

    private void askAboutAll() {
        same("answerCount()", model.answerCount(), program.answerCount());
        same("satisfiedWishes()", model.satisfiedWishes(), program.satisfiedWishes());
        same("filtersToRemoveForWishes()", model.filtersToRemoveForWishes(), program.filtersToRemoveForWishes());
        for (int i = 0; i < model.filterCount(); i++) {
            same("acceptedBy(" + i + ")", model.acceptedBy(i), program.acceptedBy(i));
        }
        same("digest()", model.digest(), program.digest());
    }

    private void askAbout(int[] pair) {
        int a = pair[0];
        int c = pair[1];
        String of = "(" + a + ", " + c + ")";
        same("matchCount" + of, model.matchCount(a, c), program.matchCount(a, c));
        same("blame" + of, model.blame(a, c), program.blame(a, c));
        same("filtersToRemove" + of, model.filtersToRemove(a, c), program.filtersToRemove(a, c));
        same("missingRows" + of, model.missingRows(a, c), program.missingRows(a, c));
        same("missingB" + of, model.missingB(a, c), program.missingB(a, c));
        for (int i = 0; i < model.filterCount(); i++) {
            same("repairedConstant(" + a + ", " + c + ", " + i + ")", model.repairedConstant(a, c, i),
                    program.repairedConstant(a, c, i));
        }
    }

    private void repairAndUndo() {
        int[] pair = pairToAskAbout();
        int a = pair[0];
        int c = pair[1];
        String of = "(" + a + ", " + c + ")";
        build("insertMissing" + of, model.insertMissing(a, c), program.insertMissing(a, c));
        same("digest()", model.digest(), program.digest());
        build("loosen" + of, model.loosen(a, c), program.loosen(a, c));
        same("digest()", model.digest(), program.digest());
        for (int i = 0; i < 3; i++) {
            build("undo()", model.undo(), program.undo());
            same("digest()", model.digest(), program.digest());
        }
    }
}
