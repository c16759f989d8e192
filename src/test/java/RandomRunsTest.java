import java.util.ArrayList;
import java.util.List;
import java.util.Random;

/** Long runs of calls, made from fixed seeds, on WhyNotJoin and on the Model: every answer must be the same. */
public final class RandomRunsTest {
    private static final int RUNS = 1500;
    /** With the bytes of one last command still under the 512 calls for which an object is promised. */
    private static final int CALLS = 480;
    private static final int[] EXTREMES = {
        Integer.MIN_VALUE, Integer.MIN_VALUE + 1, -10001, -100, -10, -9, -1, 10, 18, 19, 100, 127, 128, 1 << 30,
        Integer.MAX_VALUE - 1, Integer.MAX_VALUE,
    };
    private static final String[] PIECES = {
        "l", "r", "f", "x", "w", "e", ";", " ", "-", "0", "1", "9", "12", "123", "l1 2;", "r2 3;", "f2 0 1-4;",
        "f 0 1 3 5 ;", "x0;", "w1 3;", "e;", "q", "\t", "\0", "E", "\177", "/", ":", "f1 1 2 -0;", "l 01 02;",
    };

    private final Random random;
    private final int spread;
    private final WhyNotJoin program = new WhyNotJoin();
    private final Model model = new Model();
    private final List<String> calls = new ArrayList<>();

    private RandomRunsTest(long seed) {
        random = new Random(seed);
        // A narrow spread of values makes rows meet, filters bite and answers repeat.
        spread = 2 + random.nextInt(9);
    }

    public static void main(String[] args) {
        Checks checks = new Checks("RandomRunsTest");
        for (int seed = 1; seed <= RUNS; seed++) {
            new RandomRunsTest(seed).run(checks, seed);
        }
        checks.end();
    }

    private void run(Checks checks, int seed) {
        boolean scripts = seed % 3 == 0;
        for (int i = 0; calls.size() < CALLS; i++) {
            long[] answers = scripts && random.nextInt(4) != 0 ? scriptCall() : call(random.nextInt(33));
            String last = calls.get(calls.size() - 1);
            if (!checks.same("run " + seed + ", call " + i + ", " + last, answers[0], answers[1])) {
                System.out.println("    after " + calls.subList(Math.max(0, calls.size() - 12), calls.size() - 1));
                return;
            }
        }
        checks.same("run " + seed + ", digest() at the end", model.digest(), program.digest());
    }

    private int value() {
        return random.nextInt(25) == 0 ? EXTREMES[random.nextInt(EXTREMES.length)] : random.nextInt(Math.min(10, spread));
    }

    private int index(int size) {
        return random.nextInt(25) == 0 ? EXTREMES[random.nextInt(EXTREMES.length)] : random.nextInt(size + 1);
    }

    private long[] scriptCall() {
        switch (random.nextInt(8)) {
            case 0:
                return call(29);
            case 1:
            case 2:
                return call(30);
            case 3:
                return call(31);
            default:
                long[] answers = {0, 0};
                String piece = PIECES[random.nextInt(PIECES.length)];
                if (random.nextInt(2) == 0) {
                    piece = goodCommand();
                }
                for (int i = 0; i < piece.length() && answers[0] == answers[1]; i++) {
                    int b = piece.charAt(i);
                    answers = both("append(" + b + ")", model.append(b), program.append(b));
                }
                return answers;
        }
    }

    private String goodCommand() {
        String space = random.nextInt(4) == 0 ? " " : "";
        int x = random.nextInt(Math.min(10, spread));
        int y = random.nextInt(Math.min(10, spread));
        switch (random.nextInt(6)) {
            case 0:
                return space + "l" + x + " " + y + space + ";";
            case 1:
                return "r" + space + x + " " + space + y + ";" + space;
            case 2:
                int stage = random.nextInt(3);
                int constant = stage == 2 ? random.nextInt(28) - 9 : random.nextInt(10);
                return "f" + stage + " " + random.nextInt(2) + " " + random.nextInt(4) + " " + constant + ";";
            case 3:
                return "x" + random.nextInt(3) + ";";
            case 4:
                return "w" + x + " " + y + ";";
            default:
                return "e;";
        }
    }

    private long[] both(String call, long due, long got) {
        calls.add(call);
        return new long[] {due, got};
    }

    private long[] call(int kind) {
        int x = value();
        int y = value();
        int at = index(10);
        int filter = index(6);
        int stage = random.nextInt(20) == 0 ? value() : random.nextInt(3);
        int constant = random.nextInt(20) == 0 ? value() : stage == 2 ? random.nextInt(28) - 9 : random.nextInt(10);
        String xy = "(" + x + ", " + y + ")";
        switch (kind) {
            case 1: return both("digest()", model.digest(), program.digest());
            case 2: return both("addLeft" + xy, model.addLeft(x, y), program.addLeft(x, y));
            case 3: return both("addRight" + xy, model.addRight(x, y), program.addRight(x, y));
            case 4: return both("removeLeft(" + at + ")", model.removeLeft(at), program.removeLeft(at));
            case 5: return both("removeRight(" + at + ")", model.removeRight(at), program.removeRight(at));
            case 6: return both("leftRow(" + at + ")", model.leftRow(at), program.leftRow(at));
            case 7: return both("rightRow(" + at + ")", model.rightRow(at), program.rightRow(at));
            case 8:
                int column = random.nextInt(20) == 0 ? value() : random.nextInt(stage == 2 ? 3 : 2);
                int operator = random.nextInt(20) == 0 ? value() : random.nextInt(4);
                return both("addFilter(" + stage + ", " + column + ", " + operator + ", " + constant + ")",
                        model.addFilter(stage, column, operator, constant),
                        program.addFilter(stage, column, operator, constant));
            case 9: return both("removeFilter(" + filter + ")", model.removeFilter(filter), program.removeFilter(filter));
            case 10: return both("setConstant(" + filter + ", " + constant + ")",
                    model.setConstant(filter, constant), program.setConstant(filter, constant));
            case 11: return both("filterCount()", model.filterCount(), program.filterCount());
            case 12: return both("constant(" + filter + ")", model.constant(filter), program.constant(filter));
            case 13: return both("acceptedBy(" + filter + ")", model.acceptedBy(filter), program.acceptedBy(filter));
            case 14: return both("answerCount()", model.answerCount(), program.answerCount());
            case 15: return both("answer(" + at + ")", model.answer(at), program.answer(at));
            case 16: return both("matchCount" + xy, model.matchCount(x, y), program.matchCount(x, y));
            case 17: return both("blame" + xy, model.blame(x, y), program.blame(x, y));
            case 18: return both("filtersToRemove" + xy, model.filtersToRemove(x, y), program.filtersToRemove(x, y));
            case 19: return both("repairedConstant(" + x + ", " + y + ", " + filter + ")",
                    model.repairedConstant(x, y, filter), program.repairedConstant(x, y, filter));
            case 20: return both("missingRows" + xy, model.missingRows(x, y), program.missingRows(x, y));
            case 21: return both("missingB" + xy, model.missingB(x, y), program.missingB(x, y));
            case 22: return both("insertMissing" + xy, model.insertMissing(x, y), program.insertMissing(x, y));
            case 23: return both("loosen" + xy, model.loosen(x, y), program.loosen(x, y));
            case 24: return both("addWish" + xy, model.addWish(x, y), program.addWish(x, y));
            case 25: return both("clearWishes()", model.clearWishes(), program.clearWishes());
            case 26: return both("satisfiedWishes()", model.satisfiedWishes(), program.satisfiedWishes());
            case 27: return both("filtersToRemoveForWishes()", model.filtersToRemoveForWishes(),
                    program.filtersToRemoveForWishes());
            case 28: return both("append(" + x + ")", model.append(x), program.append(x));
            case 29: return both("clearText()", model.clearText(), program.clearText());
            case 30: return both("runScript()", model.runScript(), program.runScript());
            case 31: return both("undo()", model.undo(), program.undo());
            case 32: return both("errorCount(" + stage + ")", model.errorCount(stage), program.errorCount(stage));
            default: return both("addLeft" + xy, model.addLeft(x, y), program.addLeft(x, y));
        }
    }
}
