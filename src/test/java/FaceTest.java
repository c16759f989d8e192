import java.io.IOException;
import java.lang.reflect.Constructor;
import java.lang.reflect.Field;
import java.lang.reflect.Method;
import java.lang.reflect.Modifier;
import java.nio.file.Files;
import java.nio.file.Path;
import java.util.Set;
import java.util.TreeSet;
import java.util.regex.Matcher;
import java.util.regex.Pattern;

/** The class has the document's public face and no more, and keeps to rules that can be read off its file. */
public final class FaceTest {
    private static final String[] METHODS = {
        "int addLeft(int,int)", "int addRight(int,int)", "int removeLeft(int)", "int removeRight(int)",
        "int leftRow(int)", "int rightRow(int)", "int addFilter(int,int,int,int)", "int removeFilter(int)",
        "int setConstant(int,int)", "int filterCount()", "int constant(int)", "int acceptedBy(int)",
        "int answerCount()", "int answer(int)", "int matchCount(int,int)", "int blame(int,int)",
        "int filtersToRemove(int,int)", "int repairedConstant(int,int,int)", "int missingRows(int,int)",
        "int missingB(int,int)", "int insertMissing(int,int)", "int loosen(int,int)", "int addWish(int,int)",
        "int clearWishes()", "int satisfiedWishes()", "int filtersToRemoveForWishes()", "int append(int)",
        "int clearText()", "int runScript()", "int undo()", "int errorCount(int)", "long digest()",
    };
    private static final String[] CONSTANTS = {
        "NONE=-10001", "INVALID=-10002", "REJECTED=-10003", "FULL=-10004", "LEFT_STAGE=0", "RIGHT_STAGE=1",
        "JOIN_STAGE=2", "NO_LEFT_ROW=0", "NO_RIGHT_ROW=1", "NO_JOIN=2", "PRESENT=9", "FILTER=10",
    };

    public static void main(String[] args) throws Exception {
        Checks checks = new Checks("FaceTest");
        checks.same("methods", new TreeSet<>(Set.of(METHODS)), visibleMethods(checks));
        checks.same("constants", new TreeSet<>(Set.of(CONSTANTS)), visibleConstants());
        Constructor<?>[] constructors = WhyNotJoin.class.getDeclaredConstructors();
        checks.same("constructors", 1, constructors.length);
        checks.same("constructor", "public WhyNotJoin()", constructors[0].toString());
        checks.same("class", "public final", Modifier.toString(WhyNotJoin.class.getModifiers()));
        checkNestedClasses(checks);
        checkSource(checks);
        checks.end();
    }

    private static Set<String> visibleMethods(Checks checks) {
        Set<String> visible = new TreeSet<>();
        Set<String> hidden = new TreeSet<>();
        Set<String> publicNames = new TreeSet<>();
        for (Method method : WhyNotJoin.class.getDeclaredMethods()) {
            if (Modifier.isPrivate(method.getModifiers())) {
                hidden.add(method.getName());
                continue;
            }
            publicNames.add(method.getName());
            StringBuilder text = new StringBuilder(method.getReturnType() + " " + method.getName() + "(");
            for (int i = 0; i < method.getParameterCount(); i++) {
                text.append(i == 0 ? "" : ",").append(method.getParameterTypes()[i]);
            }
            visible.add(text.append(")").toString());
            checks.same("modifiers of " + text, "public", Modifier.toString(method.getModifiers()));
        }
        hidden.retainAll(publicNames);
        checks.same("private methods that bear a public name", new TreeSet<String>(), hidden);
        return visible;
    }

    private static Set<String> visibleConstants() throws IllegalAccessException {
        Set<String> visible = new TreeSet<>();
        for (Field field : WhyNotJoin.class.getDeclaredFields()) {
            if (!Modifier.isPrivate(field.getModifiers())) {
                boolean constant = Modifier.toString(field.getModifiers()).equals("public static final");
                visible.add(constant ? field.getName() + "=" + field.getInt(null) : field.toString());
            }
        }
        return visible;
    }

    private static void checkNestedClasses(Checks checks) {
        checks.same("at most 12 classes", true, WhyNotJoin.class.getDeclaredClasses().length < 12);
        for (Method method : WhyNotJoin.class.getDeclaredMethods()) {
            checks.same(method + " takes at most 7 parameters", true, method.getParameterCount() <= 7);
        }
        for (Class<?> nested : WhyNotJoin.class.getDeclaredClasses()) {
            for (Method method : nested.getDeclaredMethods()) {
                checks.same(method + " takes at most 7 parameters", true, method.getParameterCount() <= 7);
            }
            checks.same(nested + " is static", true, Modifier.isStatic(nested.getModifiers()));
            checks.same(nested + " is public", false, Modifier.isPublic(nested.getModifiers()));
            checks.same(nested + " has at most 20 fields", true, nested.getDeclaredFields().length <= 20);
            for (Field field : nested.getDeclaredFields()) {
                int modifiers = field.getModifiers();
                checks.same(field + " is final or of an object", true,
                        Modifier.isFinal(modifiers) || !Modifier.isStatic(modifiers));
            }
        }
    }

    private static void checkSource(Checks checks) throws IOException {
        String source = Files.readString(Path.of("src/main/java/WhyNotJoin.java"));
        String code = source.replaceAll("(?s)/\\*.*?\\*/", " ").replaceAll("//[^\n]*", " ");
        Matcher ruled = Pattern.compile("\\b(throw|throws|try|catch|synchronized|assert|package|protected|\\w+Exact)\\b|->|::")
                .matcher(code);
        while (ruled.find()) {
            checks.same("found in the program", "nothing that LANGUAGE.md rules out", ruled.group());
        }
        Matcher imports = Pattern.compile("import\\s+([\\w.]+)").matcher(code);
        while (imports.find()) {
            checks.same("import", true, Set.of("java.util.Arrays", "java.util.ArrayList", "java.util.List",
                    "java.util.Iterator").contains(imports.group(1)));
        }
    }
}
