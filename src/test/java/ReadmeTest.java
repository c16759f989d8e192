import java.io.IOException;
import java.lang.reflect.Field;
import java.lang.reflect.Member;
import java.lang.reflect.Method;
import java.lang.reflect.Modifier;
import java.nio.file.Files;
import java.nio.file.Path;
import java.util.regex.Matcher;
import java.util.regex.Pattern;

/** README.md tells how to use the class: its examples answer what they say, and nothing of the face is left out. */
public final class ReadmeTest {
    private static final Pattern EXAMPLE = Pattern.compile("(?s)```java\n(.*?)```");
    private static final Pattern NEW_TEXT = Pattern.compile("String script = \"(.*)\";");
    private static final Pattern CALL = Pattern.compile("x\\.(\\w+)\\(([^)]*)\\); +// (-?\\d+)\\b.*");

    private final Checks checks = new Checks("ReadmeTest");
    private final String page;

    private ReadmeTest() throws IOException {
        page = Files.readString(Path.of("README.md"));
    }

    public static void main(String[] args) throws Exception {
        new ReadmeTest().run();
    }

    private void run() throws ReflectiveOperationException {
        for (Method method : WhyNotJoin.class.getDeclaredMethods()) {
            checkNamed(method);
        }
        for (Field field : WhyNotJoin.class.getDeclaredFields()) {
            checkNamed(field);
        }
        checks.same("README.md names .ci/run", true, page.contains("```sh\n.ci/run\n```"));
        int examples = 0;
        for (Matcher example = EXAMPLE.matcher(page); example.find(); examples++) {
            follow(example.group(1));
        }
        checks.same("README.md has examples", true, examples > 0);
        checks.end();
    }

    private void checkNamed(Member member) {
        if (Modifier.isPublic(member.getModifiers())) {
            boolean named = Pattern.compile("\\b" + member.getName() + "\\b").matcher(page).find();
            checks.same("README.md names " + member.getName(), true, named);
        }
    }

    /** Makes the calls of an example on a new object; a line of any other form than those known here is wrong. */
    private void follow(String example) throws ReflectiveOperationException {
        WhyNotJoin x = new WhyNotJoin();
        String script = "";
        for (String line : example.split("\n")) {
            Matcher text = NEW_TEXT.matcher(line);
            Matcher call = CALL.matcher(line);
            if (text.matches()) {
                script = text.group(1);
            } else if (line.equals("    x.append(script.charAt(i));")) {
                script.chars().forEach(x::append);
            } else if (call.matches()) {
                checks.same("README.md: " + line, Long.valueOf(call.group(3)), answer(x, call.group(1), call.group(2)));
            } else {
                boolean known = line.equals("WhyNotJoin x = new WhyNotJoin();")
                        || line.equals("for (int i = 0; i < script.length(); i++) {") || line.equals("}");
                checks.same("README.md: is \"" + line + "\" understood", true, known);
            }
        }
    }

    private static long answer(WhyNotJoin x, String name, String list) throws ReflectiveOperationException {
        String[] words = list.isBlank() ? new String[0] : list.split(", ");
        Class<?>[] types = new Class<?>[words.length];
        Object[] arguments = new Object[words.length];
        for (int i = 0; i < words.length; i++) {
            types[i] = int.class;
            arguments[i] = words[i].startsWith("WhyNotJoin.")
                    ? WhyNotJoin.class.getField(words[i].substring("WhyNotJoin.".length())).getInt(null)
                    : Integer.parseInt(words[i]);
        }
        return ((Number) WhyNotJoin.class.getMethod(name, types).invoke(x, arguments)).longValue();
    }
}
