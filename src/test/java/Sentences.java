import java.io.IOException;
import java.nio.file.Files;
import java.nio.file.Path;
import java.util.ArrayList;
import java.util.LinkedHashSet;
import java.util.List;
import java.util.Set;
import java.util.regex.Matcher;
import java.util.regex.Pattern;

/**
 * Keeps the tests and the document together: each test names the sentence that it tests, word for word, and at
 * the end every sentence of the document must have had its test.
 */
final class Sentences {
    private static final Path DOCUMENT = Path.of("../shared/DOC.md");
    private static final Pattern PROMISE = Pattern.compile("## (Promise \\d+):.*");
    private static final Pattern HEADING = Pattern.compile("[A-Z]+");

    private final Checks checks = new Checks("SentenceTest");
    private final Set<String> tested = new LinkedHashSet<>();
    private String place = "";
    private String sentence = "";
    private int checksOfSentence;

    void place(String name) {
        place = name;
    }

    void test(String words, Runnable body) {
        sentence = place + ", \"" + words + "\"";
        checksOfSentence = 0;
        body.run();
        checks.same(sentence + " is checked", true, checksOfSentence > 0);
        checks.same(sentence + " is tested once", true, tested.add(place + " | " + words));
    }

    void due(String call, long due, long got) {
        checksOfSentence++;
        checks.same(sentence + ": " + call, due, got);
    }

    void end() throws IOException {
        if (Files.exists(DOCUMENT)) {
            compareWithDocument();
        } else {
            System.out.println("SentenceTest: " + DOCUMENT + " is not there, so the quotes are not compared with it");
        }
        System.out.println("SentenceTest: " + tested.size() + " sentences");
        checks.end();
    }

    private void compareWithDocument() throws IOException {
        List<String> written = sentencesOf(Files.readAllLines(DOCUMENT));
        for (String each : written) {
            checks.same("test of: " + each, "there", tested.contains(each) ? "there" : "missing");
        }
        for (String each : tested) {
            checks.same("in the document: " + each, "there", written.contains(each) ? "there" : "missing");
        }
    }

    /** Each sentence, or part of one that ends with a semicolon, behind the name of the place where it stands. */
    private static List<String> sentencesOf(List<String> lines) {
        List<String> found = new ArrayList<>();
        String where = "";
        for (String line : lines) {
            Matcher promise = PROMISE.matcher(line);
            if (promise.matches()) {
                where = promise.group(1);
            } else if (HEADING.matcher(line).matches()) {
                where = line;
            } else if (line.equals("The constants:")) {
                where = "CONSTANTS";
            } else if (line.startsWith("## ") || line.startsWith("The constructor and the methods follow")) {
                where = "";
            } else if (!where.isEmpty() && !line.isBlank() && !line.startsWith("`") && !line.startsWith("----")) {
                for (String part : line.replaceFirst("^- ", "").split("(?<=[.;]) ")) {
                    found.add(where + " | " + part.replaceFirst("[.;:]$", ""));
                }
            }
        }
        return found;
    }
}
