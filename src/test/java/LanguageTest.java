import java.io.IOException;
import java.lang.reflect.Field;
import java.lang.reflect.Method;
import java.lang.reflect.Modifier;
import java.nio.charset.StandardCharsets;
import java.nio.file.Files;
import java.nio.file.Path;
import java.util.HashMap;
import java.util.HashSet;
import java.util.Map;
import java.util.Set;
import java.util.regex.Matcher;
import java.util.regex.Pattern;

/** Rules 4, 5, 6 and 11 of LANGUAGE.md, as far as the program's text and its classes show them. */
public final class LanguageTest {
    private static final Check CHECK = new Check("LanguageTest");
    private static final Set<String> LIBRARY = Set.of(
            "Math.abs", "Math.max", "Math.min", "Math.floorDiv", "Math.floorMod");
    private static final Set<Class<?>> CONSTANTS = Set.of(int.class, long.class, boolean.class,
            char.class, String.class, int[].class, long[].class, char[].class, byte[].class);
    private static final Pattern LIBRARY_NAME = Pattern.compile("\\b[A-Z]\\w*\\.\\w+");
    private static final Pattern THROW = Pattern.compile("\\bthrow\\b[^;]*;");
    private static final Pattern GOOD_THROW = Pattern.compile("throw new (IllegalStateException"
            + "|IllegalArgumentException|IndexOutOfBoundsException)\\(\"\"\\);");
    private static final Pattern METHOD = Pattern.compile(
            "(?m)^ {4,8}(?:(?:public|private|static|final) )*(?:[\\w\\[\\]]+ )?(\\w+)"
            + "\\([^()]*\\)[^;{}()]*\\{");
    private static final Set<String> NO_CALLS = Set.of("if", "for", "while", "switch", "return");
    private static final Pattern CALL = Pattern.compile("\\b(\\w+)\\(");
    private static final int LONGEST_METHOD = 60;
    private static final int DEEPEST = 8;

    /** Of each method's name the names that it calls; methods of one name are taken together. */
    private static final Map<String, Set<String>> CALLS = new HashMap<>();

    public static void main(String[] args) throws IOException {
        String text = bare(Files.readString(Path.of(args[0]), StandardCharsets.ISO_8859_1));
        library(text);
        exceptions(text);
        members(GnomonYard.class);
        for (Class<?> inner : GnomonYard.class.getDeclaredClasses()) {
            members(inner);
        }
        methods(text);
        depths();
        CHECK.end();
    }

    /** The program without its comments and without what its texts say. */
    private static String bare(String source) {
        return source.replaceAll("(?s)/\\*.*?\\*/", "").replaceAll("//[^\n]*", "")
                .replaceAll("\"[^\"\n]*\"", "\"\"");
    }

    private static void library(String text) {
        Matcher names = LIBRARY_NAME.matcher(text);
        while (names.find()) {
            String name = names.group();
            boolean isConstantsLength = name.equals("DAYS_OF_TRIAL.length");
            CHECK.holds(isConstantsLength || LIBRARY.contains(name), "rule 4: " + name);
        }
    }

    private static void exceptions(String text) {
        Matcher thrown = THROW.matcher(text);
        while (thrown.find()) {
            CHECK.holds(GOOD_THROW.matcher(thrown.group()).matches(), "rule 6: " + thrown.group());
        }
    }

    private static void members(Class<?> type) {
        int fields = 0;
        for (Field field : type.getDeclaredFields()) {
            boolean isStatic = Modifier.isStatic(field.getModifiers());
            fields += isStatic ? 0 : 1;
            CHECK.holds(!isStatic || Modifier.isFinal(field.getModifiers())
                    && CONSTANTS.contains(field.getType()), "rule 5: " + field);
        }
        CHECK.holds(fields <= 20, "rule 11: fields of " + type);
        for (Method method : type.getDeclaredMethods()) {
            CHECK.holds(method.getParameterCount() <= 7, "rule 11: parameters of " + method);
        }
    }

    private static void methods(String text) {
        Matcher method = METHOD.matcher(text);
        while (method.find()) {
            String name = method.group(1);
            if (NO_CALLS.contains(name)) {
                continue;
            }
            String body = text.substring(method.end(), endOfBlock(text, method.end()));
            CHECK.holds(body.lines().count() <= LONGEST_METHOD, "rule 11: " + name + " is long");
            Set<String> called = CALLS.computeIfAbsent(name, n -> new HashSet<>());
            Matcher calls = CALL.matcher(body);
            while (calls.find()) {
                called.add(calls.group(1));
            }
        }
        for (Method open : GnomonYard.class.getDeclaredMethods()) {
            CHECK.holds(CALLS.containsKey(open.getName()), open + " was not found in the text");
        }
    }

    private static int endOfBlock(String text, int begin) {
        int open = 1;
        int at = begin;
        while (at < text.length() && open > 0) {
            char sign = text.charAt(at);
            open += sign == '{' ? 1 : sign == '}' ? -1 : 0;
            at++;
        }
        return at;
    }

    private static void depths() {
        for (String name : CALLS.keySet()) {
            int depth = depthOf(name, 0);
            CHECK.holds(depth <= DEEPEST, "rule 11: " + name + " goes " + depth + " deep");
        }
    }

    /** How deep calls go, with the library's own as the last; far too much for those in a ring. */
    private static int depthOf(String name, int above) {
        if (above > 3 * DEEPEST) {
            return 1;
        }
        int deepest = 0;
        for (String called : CALLS.getOrDefault(name, Set.of())) {
            deepest = Math.max(deepest, depthOf(called, above + 1));
        }
        return deepest + 1;
    }
}
