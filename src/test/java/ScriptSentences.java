/** SCRIPTS and promises 28 to 30. */
final class ScriptSentences extends SentenceGroup {
    private static final int SYNTAX = -10, COMMAND = -1000;
    private static final String LETTERS = "lrfxwe", DIGITS = "0123456789";

    /** Each place of a number in each command, told by a #; the constant of "f" is the last. */
    private static final String[] PLACES = {
        "l# 0;", "l0 #;", "r# 0;", "r0 #;", "w# 0;", "w0 #;", "x#;", "f# 0 0 0;", "f0 # 0 0;", "f0 0 # 0;", "f2 0 0 #;",
    };

    ScriptSentences(Sentences sentences) {
        super(sentences);
    }

    @Override
    void run() {
        place("SCRIPTS");
        buffer();
        commands();
        numbers();
        spaces();
        place("Promise 28");
        append();
        place("Promise 29");
        clearText();
        place("Promise 30");
        runScript();
        syntaxErrors();
        failingCommands();
        answers();
    }

    private static Setup typed(String text) {
        return () -> States.withText(text);
    }

    /** The state with this text alone. */
    private static Setup typed(Setup state, String text) {
        return () -> {
            WhyNotJoin x = state.make();
            x.clearText();
            States.type(x, text);
            return x;
        };
    }

    private static Setup bytes(int count) {
        return typed("e".repeat(count));
    }

    private void answers(int due, String text) {
        due("runScript() of '" + text + "'", due, States.withText(text).runScript());
    }

    private void errorAt(int position, String text) {
        answers(SYNTAX - position, text);
    }

    /** The text is a script, whether or not its commands succeed. */
    private void isScript(boolean due, String text) {
        int answer = States.withText(text).runScript();
        due("'" + text + "' is a script", due ? 1 : 0, answer > SYNTAX || answer <= COMMAND ? 1 : 0);
    }

    // ---- SCRIPTS

    private void buffer() {
        sentence("The text buffer holds at most 120 bytes and may contain a script", () -> {
            WhyNotJoin x = bytes(119).make();
            due("the 120th byte", 120, x.append(';'));
            due("a 121st byte", FULL, x.append(';'));
            due("clearText()", 120, x.clearText());
            answers(60, "e;".repeat(60));
            answers(1, " ".repeat(113) + "l 1 2 ;");
            answers(1, "l1 2;" + " ".repeat(115));
            due("a script, cut off by the end of the buffer", SYNTAX - 120, cutOff().runScript());
        });
        sentence("A script is one or more commands, each ended by a semicolon", () -> {
            errorAt(0, "");
            answers(1, "e;");
            answers(2, "e;e;");
            answers(60, "e;".repeat(60));
            errorAt(1, "e");
            errorAt(3, "e;e");
            errorAt(1, "ee;");
            errorAt(0, ";");
            errorAt(2, "e;;");
            errorAt(4, "l1 2");
            errorAt(4, "l1 2e;");
        });
    }

    /** A text of which the last semicolon does not fit into the buffer. */
    private static WhyNotJoin cutOff() {
        return States.withText("e;".repeat(58) + "l1 2;");
    }

    private void commands() {
        sentence("\"l a b\" adds a left row, \"r b c\" adds a right row, \"f stage column operator constant\" adds a filter,"
                + " \"x index\" removes a filter, \"w a c\" adds a wish, \"e\" clears the wishes", () -> {
            sameAs("l3 7;", x -> x.addLeft(3, 7));
            sameAs("l0 9;", x -> x.addLeft(0, 9));
            sameAs("r3 7;", x -> x.addRight(3, 7));
            sameAs("r9 0;", x -> x.addRight(9, 0));
            sameAs("f0 1 2 3;", x -> x.addFilter(0, 1, 2, 3));
            sameAs("f1 0 3 9;", x -> x.addFilter(1, 0, 3, 9));
            sameAs("f2 2 0 -9;", x -> x.addFilter(2, 2, 0, -9));
            sameAs("f2 1 1 18;", x -> x.addFilter(2, 1, 1, 18));
            sameAs("x0;", x -> x.removeFilter(0));
            sameAs("x2;", x -> x.removeFilter(2));
            sameAs("w3 7;", x -> x.addWish(3, 7));
            sameAs("w9 0;", x -> x.addWish(9, 0));
            sameAs("e;", WhyNotJoin::clearWishes);
        });
    }

    /** A script of one command does what the call does, and saves the state as it does. */
    private void sameAs(String text, Call call) {
        WhyNotJoin x = typed(States::busy, text).make();
        WhyNotJoin y = typed(States::busy, text).make();
        due("runScript() of '" + text + "'", 1, x.runScript());
        due("the call succeeds", 1, call.on(y) >= COMMAND ? 1 : 0);
        due("digest() after '" + text + "'", y.digest(), x.digest());
        due("undo() after '" + text + "'", y.undo(), x.undo());
        due("digest() after '" + text + "' and undo()", y.digest(), x.digest());
    }

    private void numbers() {
        sentence("A number has one or two decimal digits", () -> {
            for (String place : PLACES) {
                int at = place.indexOf('#');
                for (String number : new String[] {"0", "9", "00", "09", "10", "99"}) {
                    isScript(true, place.replace("#", number));
                }
                for (String number : new String[] {"000", "009", "100", "999"}) {
                    errorAt(at + 2, place.replace("#", number));
                }
                for (String number : new String[] {"", "a", ":", "/", "+1", ".5"}) {
                    isScript(false, place.replace("#", number));
                }
            }
            WhyNotJoin x = States.withText("l07 04;r04 00;");
            x.runScript();
            due("leftRow(0)", 74, x.leftRow(0));
            due("rightRow(0)", 40, x.rightRow(0));
        });
        sentence("Only the constant of \"f\" may have a minus sign, directly before its first digit", () -> {
            for (int i = 0; i < PLACES.length - 1; i++) {
                errorAt(PLACES[i].indexOf('#'), PLACES[i].replace("#", "-1"));
                errorAt(PLACES[i].indexOf('#'), PLACES[i].replace("#", "-0"));
            }
            addsConstant(-1, "f2 0 0 -1;");
            addsConstant(-9, "f2 0 0 -09;");
            addsConstant(0, "f2 0 0 -0;");
            addsConstant(0, "f0 0 0 -00;");
            errorAt(8, "f2 0 0 - 1;");
            errorAt(8, "f2 0 0 --1;");
            errorAt(8, "f2 0 0 -;");
            errorAt(8, "f2 0 0 -");
            errorAt(8, "f2 0 0 1-;");
            errorAt(9, "f2 0 0 -1-2;");
            errorAt(10, "f2 0 0 -123;");
            errorAt(7, "f2 0 0 +1;");
            errorAt(9, "f2 0 0 1 -2;");
        });
    }

    private void spaces() {
        sentence("Spaces (byte 32) may stand between tokens, before the first and behind the last one", () -> {
            String[] tokens = {"", "l", "1", " 2", ";", "f", "2", " 0", " 0", " -3", ";", "x", "0", ";", "w", "1", " 2", ";", "e", ";"};
            for (int gap = 0; gap <= tokens.length; gap++) {
                StringBuilder text = new StringBuilder();
                for (int i = 0; i < tokens.length; i++) {
                    text.append(i == gap ? "   " : "").append(tokens[i]);
                }
                answers(5, text.append(gap == tokens.length ? "   " : "").toString());
            }
            answers(5, "  " + String.join("  ", tokens) + "  ");
            answers(5, "l1 2;f2 0 0 -3;x0;w1 2;e;");
            errorAt(8, "f2 0 0 - 3;");
            for (int other = 0; other < 128; other++) {
                String sign = String.valueOf((char) other);
                due("byte " + other + " before the first", other == 32 ? 1 : LETTERS.contains(sign) ? -11 : -10,
                        States.withText(sign + "e;").runScript());
                due("byte " + other + " behind the last", other == 32 ? 1 : LETTERS.contains(sign) ? -13 : -12,
                        States.withText("e;" + sign).runScript());
                due("byte " + other + " between", other == 32 ? 1 : other == ';' ? -12 : -11,
                        States.withText("e" + sign + ";").runScript());
            }
        });
        sentence("at least one space must separate two numbers that would otherwise run together", () -> {
            answers(1, "l1 2;");
            answers(1, "l1  2;");
            errorAt(3, "l12;");
            errorAt(3, "r12;");
            errorAt(3, "w12;");
            errorAt(3, "l123;");
            errorAt(7, "f2 0 00;");
            errorAt(5, "f2 00;");
            errorAt(3, "f20;");
            errorAt(4, "f20 ;");
            errorAt(3, "f2000;");
            // With a minus between them two numbers do not run together.
            addsConstant(-3, "f2 0 0-3;");
        });
    }

    private void addsConstant(int constant, String text) {
        WhyNotJoin x = States.withText(text);
        due("runScript() of '" + text + "'", 1, x.runScript());
        due("constant(0)", constant, x.constant(0));
    }

    // ---- promise 28 and 29

    private void append() {
        sentence("Appends a byte to the text buffer", () -> {
            WhyNotJoin x = new WhyNotJoin();
            for (char letter : "l3 7;".toCharArray()) {
                x.append(letter);
            }
            due("runScript()", 1, x.runScript());
            due("leftRow(0)", 37, x.leftRow(0));
            x.append('e');
            due("runScript() of one byte more", SYNTAX - 6, x.runScript());
            due("undo(), for append saves nothing", 0, x.undo());
        });
        sentence("`value`: 0 to 127", () -> {
            range("value", 0, 127, States::fresh, WhyNotJoin::append);
            range("value", 0, 127, States::busy, WhyNotJoin::append);
        });
        sentence("Returns the new length of the buffer", () -> {
            WhyNotJoin x = new WhyNotJoin();
            for (int length = 1; length <= 120; length++) {
                due("append(" + length + ")", length, x.append(length));
            }
            x.clearText();
            due("append(0) after clearText()", 1, x.append(0));
        });
        sentence("INVALID if value is out of range", () -> {
            for (int value : new int[] {-1, 128, 255, 256, MIN, MAX}) {
                refusedInAll(INVALID, "append(" + value + ")", x -> x.append(value), States::fresh, States::busy, bytes(119),
                        bytes(120));
            }
        });
        sentence("FULL if the buffer has 120 bytes", () -> {
            refusedInAll(FULL, "append(0)", x -> x.append(0), bytes(120), States::full);
            refusedInAll(FULL, "append(127)", x -> x.append(127), bytes(120), States::full);
            due("append(0) as the 120th", 120, bytes(119).make().append(0));
        });
    }

    private void clearText() {
        sentence("Empties the text buffer", () -> {
            for (int length : new int[] {0, 1, 119, 120}) {
                WhyNotJoin x = bytes(length).make();
                x.clearText();
                due("clearText() again", 0, x.clearText());
                due("runScript()", SYNTAX, x.runScript());
                due("append('e')", 1, x.append('e'));
                due("append(';')", 2, x.append(';'));
                due("runScript() of the new text", 1, x.runScript());
            }
            WhyNotJoin y = States.full();
            y.clearText();
            due("digest(), where nothing but the length is another", States.fullLists().digest(), y.digest());
        });
        sentence("Returns its previous length", () -> {
            for (int length = 0; length <= 120; length++) {
                due("clearText()", length, bytes(length).make().clearText());
            }
            WhyNotJoin x = bytes(120).make();
            x.append('e');
            due("clearText() after a 121st byte", 120, x.clearText());
            due("undo(), for clearText saves nothing", REJECTED, x.undo());
        });
    }

    // ---- promise 30

    private void runScript() {
        sentence("Parses the text buffer as a script and then executes its commands in order", () -> {
            WhyNotJoin x = States.withText("w1 1;e;w2 2;f0 0 0 1;f0 0 0 2;x0;l1 2;l3 4;");
            due("runScript()", 8, x.runScript());
            due("addWish(2, 2), it is there", REJECTED, x.addWish(2, 2));
            due("addWish(1, 1), it was cleared", 2, x.addWish(1, 1));
            due("constant(0), filter 0 was removed", 2, x.constant(0));
            due("leftRow(0)", 12, x.leftRow(0));
            due("leftRow(1)", 34, x.leftRow(1));
            answers(COMMAND, "x0;f0 0 0 1;");
            answers(2, "f0 0 0 1;x0;");
        });
        sentence("The buffer is not changed", () -> {
            for (String text : new String[] {"", "l1 2;", "l1 2;?", "x0;", "e;".repeat(60)}) {
                WhyNotJoin x = States.withText(text);
                x.runScript();
                due("clearText() after '" + text + "'", text.length(), x.clearText());
            }
            WhyNotJoin y = States.withText("f0 0 0 1;");
            for (int i = 0; i < 6; i++) {
                due("runScript() again", 1, y.runScript());
                due("filterCount()", i + 1, y.filterCount());
            }
            due("runScript() a 7th time", COMMAND, y.runScript());
            due("append('x')", 10, y.append('x'));
            due("append('0')", 11, y.append('0'));
            due("append(';')", 12, y.append(';'));
            due("runScript() with six filters", COMMAND, y.runScript());
        });
        sentence("If all commands succeed, the whole script is one undoable step", () -> {
            undoableAtEveryDepth(3, "a script of rows", typed("l1 2;r2 3;l1 3;"), WhyNotJoin::runScript);
            undoableAtEveryDepth(4, "a script that empties lists", typed(States::busy, "x0;x0;x0;e;"), WhyNotJoin::runScript);
            undoableAtEveryDepth(1, "a script that changes nothing", typed("e;"), WhyNotJoin::runScript);
            undoableAtEveryDepth(2, "a script that takes back what it does", typed("f0 0 0 0;x0;"), WhyNotJoin::runScript);
            undoableAtEveryDepth(60, "a script of 60 commands", States::full, WhyNotJoin::runScript);
        });
        sentence("The whole script is parsed before the first command is executed", () -> {
            String[] texts = {"l8 8;?", "x0;l8 8", "e;w8 8;e;;", "x9;-", "l1 2;l1 2;l1 2;l"};
            int[] positions = {5, 7, 9, 3, 16};
            for (int i = 0; i < texts.length; i++) {
                onlyAnswers(SYNTAX - positions[i], "runScript() of '" + texts[i] + "'", typed(States::busy, texts[i]),
                        WhyNotJoin::runScript);
            }
        });
    }

    private void syntaxErrors() {
        sentence("A syntax error is at the position of the first byte that cannot continue a valid script", () -> {
            continuedBy(" " + LETTERS, "", " ", "l1 2;", "l1 2; ", "e;", "x1;", "f1 2 3 4;");
            continuedBy(" " + DIGITS, "l", "r", "w", "x", "f", "l ", "f ", "l1", "r1", "w1", "f1", "f1 2", "l1 ", "f1 ",
                    "f1 2 ");
            continuedBy(" ", "l12", "r12", "w12", "f12", "f1 23");
            continuedBy(" ;" + DIGITS, "l1 2", "r1 2", "w1 2", "x1", "f1 2 3 4", "f1 2 3 -4");
            continuedBy(" ;", "l1 23", "x12", "f1 2 3 45", "f1 2 3 -45", "l1 2 ", "x1 ", "f1 2 3 4 ", "e", "e ");
            continuedBy(" -" + DIGITS, "f1 2 3", "f1 2 3 ");
            continuedBy(" -", "f1 2 34");
            continuedBy(DIGITS, "f1 2 3 -", "f1 2 3-");
        });
        sentence("It is at the length of the buffer if the script ends too early", () -> {
            String script = " l 12 3 ; f 2 0 0 -11 ; x 1 ; e ; w1 2;";
            for (int length = 0; length < script.length(); length++) {
                String text = script.substring(0, length);
                if (!text.trim().endsWith(";")) {
                    errorAt(length, text);
                }
            }
            errorAt(120, "e;".repeat(59) + "l1");
            errorAt(119, "e;".repeat(59) + "l");
            errorAt(120, "e;".repeat(59) + " e");
        });
        sentence("an empty buffer and a buffer of spaces also end too early", () -> {
            for (int length = 0; length <= 120; length++) {
                errorAt(length, " ".repeat(length));
            }
            onlyAnswers(-10, "runScript() of an empty buffer", States::fresh, WhyNotJoin::runScript);
            onlyAnswers(-130, "runScript() of 120 spaces", typed(" ".repeat(120)), WhyNotJoin::runScript);
        });
        sentence("A third digit of a number is a syntax error at that digit", () -> {
            for (String place : PLACES) {
                for (char digit : DIGITS.toCharArray()) {
                    errorAt(place.indexOf('#') + 2, place.replace("#", "01" + digit));
                    errorAt(place.indexOf('#') + 2, place.replace("#", "01" + digit + "4"));
                }
            }
            errorAt(10, "f2 0 0 -111;");
            errorAt(9, "f2 0 0-111;");
            errorAt(8, "l1 2;l123");
        });
    }

    /** Of all bytes just these can stand behind each beginning; what comes behind another one does not matter. */
    private void continuedBy(String bytes, String... beginnings) {
        for (String beginning : beginnings) {
            for (int value = 0; value < 128; value++) {
                String text = beginning + (char) value;
                if (bytes.indexOf(value) < 0) {
                    errorAt(beginning.length(), text);
                    errorAt(beginning.length(), text + ";e;");
                } else if (text.trim().endsWith(";")) {
                    isScript(true, text);
                } else {
                    errorAt(text.length(), text);
                }
            }
        }
    }

    private void failingCommands() {
        sentence("If a command fails, the state is as before the script", () -> {
            String[] texts = {
                "l8 8;l8 8;", "r8 8;r8 8;", "x0;x0;x0;x0;", "w8 8;w8 8;", "e;x9;", "f0 0 0 0;f0 0 0 10;", "l8 8;l10 0;",
                "r8 8;r0 10;", "w8 8;w10 0;", "f0 0 0 0;f3 0 0 0;", "l8 8;r8 8;f2 0 0 -9;x0;e;w8 8;w8 7;w8 6;l1 2;",
            };
            int[] first = {1, 1, 3, 1, 1, 1, 1, 1, 1, 1, 8};
            for (int i = 0; i < texts.length; i++) {
                onlyAnswers(COMMAND - first[i], "runScript() of '" + texts[i] + "'", typed(States::busy, texts[i]),
                        WhyNotJoin::runScript);
            }
            String[] inFull = {"e;l0 1;", "e;r0 1;", "e;f0 0 0 0;", "x0;w9 9;", "x5;l0 0;", "x5;r9 9;", "x0;w1 2;", "x5;x5;"};
            for (String text : inFull) {
                onlyAnswers(COMMAND - 1, "runScript() of '" + text + "' in full lists", typed(States::full, text),
                        WhyNotJoin::runScript);
            }
        });
        sentence("Neither a syntax error nor a failing command increments an error counter", () -> {
            String[] texts = {"?", "", "l1 2", "l10 0;", "l1 2;", "x9;", "w1 5;", "f0 0 0 10;"};
            for (String text : texts) {
                WhyNotJoin x = typed(States::busy, text).make();
                due("runScript() of '" + text + "' fails", 1, x.runScript() <= SYNTAX ? 1 : 0);
                due("errorCount(0)", 1, x.errorCount(0));
                due("errorCount(1)", 1, x.errorCount(1));
                due("errorCount(2)", 0, x.errorCount(2));
            }
            for (String text : new String[] {"l0 1;", "r0 1;", "f0 0 0 0;", "w9 9;"}) {
                WhyNotJoin x = typed(States::full, text).make();
                due("runScript() of '" + text + "' fails", COMMAND, x.runScript());
                due("errorCount(2)", 0, x.errorCount(2));
            }
        });
    }

    private void answers() {
        sentence("Returns the number of commands", () -> {
            for (int count = 1; count <= 60; count++) {
                answers(count, "e;".repeat(count));
            }
            answers(1, " e ; ");
            answers(6, "l1 2;r1 2;f0 0 0 0;x0;w1 2;e;");
        });
        sentence("-10 - p for a syntax error at position p", () -> {
            answers(-10, "?");
            answers(-11, "e?");
            answers(-128, "e;".repeat(59) + "?;");
            answers(-129, "e;".repeat(59) + "e?");
            answers(-130, "e;".repeat(59) + "e ");
        });
        sentence("-1000 - k if the command with index k (from 0) is the first that fails", () -> {
            for (int k = 0; k <= 58; k++) {
                answers(COMMAND - k, "e;".repeat(k) + "x0;");
            }
            answers(COMMAND - 1, "e;x0;x0;e;l1 2;l1 2;");
            answers(COMMAND, "l10 0;");
            answers(COMMAND, "l0 10;");
            answers(COMMAND, "r10 0;");
            answers(COMMAND, "w0 99;");
            answers(COMMAND, "f3 0 0 0;");
            answers(COMMAND, "f0 2 0 0;");
            answers(COMMAND, "f2 3 0 0;");
            answers(COMMAND, "f0 0 4 0;");
            answers(COMMAND - 1, "f0 0 0 9;f0 0 0 10;");
            answers(COMMAND - 1, "f1 0 0 -0;f1 0 0 -1;");
            answers(COMMAND - 1, "f2 0 0 18;f2 0 0 19;");
            answers(COMMAND - 1, "f2 0 0 -9;f2 0 0 -10;");
            answers(COMMAND - 1, "f2 0 0 0;x1;");
            answers(COMMAND - 4, "w0 0;w0 1;w0 2;w0 3;w0 4;");
            answers(COMMAND - 6, "f0 0 0 0;".repeat(7));
            answers(COMMAND - 10, tenRows("l") + "l1 0;");
            answers(COMMAND - 10, tenRows("r") + "r1 0;");
        });
    }

    private static String tenRows(String letter) {
        StringBuilder text = new StringBuilder();
        for (int i = 0; i < 10; i++) {
            text.append(letter).append("0 ").append(i).append(';');
        }
        return text.toString();
    }
}
