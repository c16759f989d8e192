import java.util.Random;

/**
 * Scripts that fill the text buffer, whole and with one byte changed, left out or put in. Every answer is compared
 * with the Model's.
 */
public final class LongScriptsTest {
    private static final int SCRIPTS = 1500;
    private static final int MAX_TEXT = 120;
    /** Three texts of 120 bytes, with all that is asked, stay under the 512 calls for which an object is promised. */
    private static final int TEXTS = 3;
    private static final String OTHER_BYTES = "lrfxwe; -0123456789\0\t\n/:LREFXW\177";

    private final Checks checks;
    private final int seed;
    private final Random random;
    private final WhyNotJoin program = new WhyNotJoin();
    private final Model model = new Model();
    private String text = "";

    private LongScriptsTest(Checks checks, int seed) {
        this.checks = checks;
        this.seed = seed;
        random = new Random(104729L * seed);
    }

    public static void main(String[] args) {
        Checks checks = new Checks("LongScriptsTest");
        for (int seed = 1; seed <= SCRIPTS; seed++) {
            new LongScriptsTest(checks, seed).run();
        }
        checks.end();
    }

    private void run() {
        String script = longScript();
        run(script);
        for (int i = 1; i < TEXTS; i++) {
            run(changed(script));
        }
    }

    private void run(String newText) {
        text = newText;
        for (int i = 0; i < text.length(); i++) {
            same("append(" + (int) text.charAt(i) + ")", model.append(text.charAt(i)), program.append(text.charAt(i)));
        }
        same("runScript()", model.runScript(), program.runScript());
        same("digest()", model.digest(), program.digest());
        same("undo()", model.undo(), program.undo());
        same("digest()", model.digest(), program.digest());
        same("clearText()", model.clearText(), program.clearText());
    }

    private void same(String call, long due, long got) {
        checks.same("script " + seed + " \"" + text + "\", " + call, due, got);
    }

    /** As many commands as fit, and spaces behind them up to the end of the buffer in some of the scripts. */
    private String longScript() {
        StringBuilder script = new StringBuilder(spaces(2));
        boolean dense = random.nextInt(3) == 0;
        String next = command(dense);
        while (script.length() + next.length() <= MAX_TEXT) {
            script.append(next);
            next = command(dense);
        }
        if (random.nextInt(2) == 0) {
            script.append(" ".repeat(MAX_TEXT - script.length()));
        }
        return script.toString();
    }

    /** One command, with mostly such numbers as succeed; a dense one has no space that it does not need. */
    private String command(boolean dense) {
        String s = dense ? "" : spaces(3);
        String t = dense ? "" : spaces(3);
        String gap = " " + (dense ? "" : spaces(2));
        int x = random.nextInt(10);
        int y = random.nextInt(10);
        switch (random.nextInt(dense ? 12 : 8)) {
            case 0:
            case 1:
                return "l" + s + number(x) + gap + number(y) + t + ";";
            case 2:
            case 3:
                return "r" + s + number(x) + gap + number(y) + t + ";" + s;
            case 4:
                int stage = random.nextInt(3);
                int constant = stage == 2 ? random.nextInt(28) - 9 : random.nextInt(10);
                String before = constant < 0 && dense ? "" : gap;
                return "f" + s + stage + gap + random.nextInt(2) + gap + random.nextInt(4) + before + constant + t + ";";
            case 5:
                return "w" + s + number(x) + gap + number(y) + ";" + t;
            case 6:
                return random.nextInt(3) == 0 ? "x" + s + "0" + t + ";" : s + "e;";
            default:
                return "e" + s + ";" + t;
        }
    }

    private String spaces(int most) {
        return " ".repeat(random.nextInt(most));
    }

    private String number(int value) {
        int way = random.nextInt(40);
        return way == 0 ? "1" + value : way < 4 ? "0" + value : "" + value;
    }

    private String changed(String script) {
        int at = random.nextInt(script.length());
        char other = OTHER_BYTES.charAt(random.nextInt(OTHER_BYTES.length()));
        String before = script.substring(0, at);
        String behind = script.substring(at + 1);
        switch (random.nextInt(4)) {
            case 0:
                return before + behind;
            case 1:
                return before;
            case 2:
                String longer = before + other + script.substring(at);
                return longer.substring(0, Math.min(MAX_TEXT, longer.length()));
            default:
                return before + other + behind;
        }
    }
}
