import java.io.IOException;
import java.lang.reflect.Constructor;
import java.lang.reflect.Field;
import java.lang.reflect.Method;
import java.lang.reflect.Modifier;
import java.nio.charset.StandardCharsets;
import java.nio.file.Files;
import java.nio.file.Path;
import java.util.Arrays;
import java.util.TreeSet;

/** The public face, as the document has it, and what a text can show of the language's rules. */
public final class FaceTest {
    private static final Check CHECK = new Check("FaceTest");
    private static final String INDEX = " throws IndexOutOfBoundsException";
    private static final String ARGUMENT = "IllegalArgumentException";
    private static final String STATE = "IllegalStateException";
    private static final String A = " throws " + ARGUMENT;
    private static final String AS = A + ", " + STATE;
    private static final String I = INDEX;
    private static final String IA = INDEX + ", " + ARGUMENT;
    private static final String IAS = IA + ", " + STATE;
    private static final String[] FACE = {
        "int sine(int)" + A, "int day(int, int)" + A, "long sun(int, int, int, int)" + A,
        "int place(int, int)" + AS, "int light(int, int, int)" + IA, "int lightAnew(int, int)" + IA,
        "int hour(int, int, int, int)" + IA, "void summer(int, int)" + A,
        "int dial(int, int, int, int)" + IAS, "int stand(int, int, int, int)" + IA,
        "int shadow(int, int, int, boolean)" + IAS, "float blur(int, int, int)" + IAS,
        "int line(int, int, int)" + IAS, "int read(int, int, int, int)" + IA,
        "int tells(int, int, int)" + IA, "int worst(int, int, int)" + IA,
        "int best(int, int, int)" + IA, "int cut(int, int, int)" + IAS, "int lies(int)" + I,
        "long cost()", "int find(int, int, int, int)" + AS, "int forget()",
        "int fits(int, int, int, int)" + AS,
    };

    public static void main(String[] args) throws IOException {
        methods();
        members();
        text(Files.readString(Path.of(args[0]), StandardCharsets.ISO_8859_1));
        CHECK.end();
    }

    private static String names(Class<?>[] types) {
        StringBuilder names = new StringBuilder();
        for (Class<?> type : types) {
            names.append(names.length() == 0 ? "" : ", ").append(type.getSimpleName());
        }
        return names.toString();
    }

    private static void methods() {
        TreeSet<String> open = new TreeSet<>();
        TreeSet<String> openNames = new TreeSet<>();
        TreeSet<String> otherNames = new TreeSet<>();
        for (Method method : GnomonYard.class.getDeclaredMethods()) {
            int modifiers = method.getModifiers();
            if (Modifier.isPublic(modifiers)) {
                String thrown = names(method.getExceptionTypes());
                open.add(method.getReturnType() + " " + method.getName() + "("
                        + names(method.getParameterTypes()) + ")"
                        + (thrown.isEmpty() ? "" : " throws " + thrown));
                openNames.add(method.getName());
            } else {
                otherNames.add(method.getName());
                CHECK.holds(Modifier.isPrivate(modifiers), method + " is not private");
            }
        }
        CHECK.holds(open.equals(new TreeSet<>(Arrays.asList(FACE))), "the face is " + open);
        otherNames.retainAll(openNames);
        CHECK.holds(otherNames.isEmpty(), "private methods bear public names: " + otherNames);
    }

    private static void members() {
        CHECK.holds(GnomonYard.class.getModifiers() == (Modifier.PUBLIC | Modifier.FINAL),
                "the class is not public and final");
        Constructor<?>[] constructors = GnomonYard.class.getDeclaredConstructors();
        CHECK.holds(constructors.length == 1 && constructors[0].getParameterCount() == 0
                && Modifier.isPublic(constructors[0].getModifiers()), "another constructor");
        for (Field field : GnomonYard.class.getDeclaredFields()) {
            boolean isNone = field.getName().equals("NONE")
                    && Modifier.isPublic(field.getModifiers());
            CHECK.holds(isNone || Modifier.isPrivate(field.getModifiers()), field + " is open");
        }
        for (Class<?> inner : GnomonYard.class.getDeclaredClasses()) {
            CHECK.holds(Modifier.isStatic(inner.getModifiers())
                    && Modifier.isPrivate(inner.getModifiers()), inner + " is open or not static");
        }
        CHECK.holds(GnomonYard.class.getDeclaredClasses().length <= 12, "too many classes");
    }

    private static void text(String source) {
        String[] banned = {"import ", "package ", "->", "::", "catch", "finally", "synchronized",
            "assert", "Exact(", "java.", "System.", "double", "NaN"};
        for (String word : banned) {
            CHECK.holds(!source.contains(word), "the program says " + word);
        }
        CHECK.holds(source.chars().allMatch(sign -> sign < 128), "a sign beyond 127");
    }
}
