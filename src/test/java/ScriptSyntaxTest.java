/**
 * Promise 30, every short text: WhyNotJoin and the Model, which knows the grammar as a regular expression,
 * must tell the same syntax error or the same outcome.
 */
public final class ScriptSyntaxTest {
    private static final String SIGNS = "lfxe; -07a";
    private static final String[] BEGINNINGS = {
        "", "l1", "w 0 ", "f2 0 0", "f2 0 0 -", "f2 0 0 1", "f2 0", "l1 2;", "x1", "e; ",
    };

    private final Checks checks = new Checks("ScriptSyntaxTest");

    public static void main(String[] args) {
        ScriptSyntaxTest test = new ScriptSyntaxTest();
        for (String beginning : BEGINNINGS) {
            test.tryAll(beginning, 4);
        }
        test.checks.end();
    }

    private void tryAll(String text, int more) {
        compare(text);
        for (int i = 0; i < SIGNS.length() && more > 0; i++) {
            tryAll(text + SIGNS.charAt(i), more - 1);
        }
    }

    private void compare(String text) {
        WhyNotJoin program = new WhyNotJoin();
        Model model = new Model();
        program.addFilter(0, 0, 0, 0);
        model.addFilter(0, 0, 0, 0);
        for (int i = 0; i < text.length(); i++) {
            program.append(text.charAt(i));
            model.append(text.charAt(i));
        }
        checks.same("runScript() of '" + text + "'", model.runScript(), program.runScript());
        checks.same("digest() after '" + text + "'", model.digest(), program.digest());
    }
}
