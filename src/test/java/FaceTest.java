import java.lang.reflect.Constructor;
import java.lang.reflect.Field;
import java.lang.reflect.Method;
import java.lang.reflect.Modifier;
import java.nio.file.Files;
import java.nio.file.Path;
import java.util.Arrays;
import java.util.TreeSet;

/** The face is the document's and no more; what LANGUAGE.md rules out does not stand in the source. */
public final class FaceTest {
    private static final String INDEX = " IndexOutOfBoundsException";
    private static final String STATE = " IllegalStateException";
    private static final String NUMBER = " IllegalArgumentException";

    private static String told(Method m) {
        StringBuilder text = new StringBuilder(m.getReturnType() + " " + m.getName());
        text.append(Arrays.toString(m.getParameterTypes()));
        for (Class<?> thrown : m.getExceptionTypes()) {
            text.append(' ').append(thrown.getSimpleName());
        }
        return text.toString();
    }

    private static void face() {
        TreeSet<String> want = new TreeSet<>(Arrays.asList(
            "int encode[int, int]" + INDEX + STATE + NUMBER, "int finish[]" + STATE, "int byteAt[int]" + INDEX,
            "boolean feed[int]" + STATE + NUMBER, "int decode[int]" + INDEX + STATE, "int state[int, int]" + INDEX,
            "int whole[int, int]" + INDEX + STATE, "int readWhole[int]" + INDEX + STATE, "int save[]" + STATE,
            "boolean back[int]", "boolean raw[boolean]", "int beyond[]", "void reset[]"));
        TreeSet<String> got = new TreeSet<>();
        for (Method m : ArithmeticRows.class.getDeclaredMethods()) {
            if (!Modifier.isPrivate(m.getModifiers())) {
                got.add((Modifier.isPublic(m.getModifiers()) ? "" : "not public: ") + told(m));
            }
        }
        Check.due("the methods", got, want);
        for (Field f : ArithmeticRows.class.getDeclaredFields()) {
            boolean constant = f.getName().equals("OUT_OF_BAND");
            Check.due(f.getName() + " is private", Modifier.isPrivate(f.getModifiers()), !constant);
        }
        Constructor<?>[] made = ArithmeticRows.class.getDeclaredConstructors();
        Check.due("the constructors", Arrays.toString(made), "[public ArithmeticRows(int)]");
        Check.due("public and final", ArithmeticRows.class.getModifiers(), Modifier.PUBLIC | Modifier.FINAL);
        Check.due("OUT_OF_BAND", ArithmeticRows.OUT_OF_BAND, Integer.MIN_VALUE);
    }

    private static void names() {
        TreeSet<String> face = new TreeSet<>();
        for (Method m : ArithmeticRows.class.getMethods()) {
            face.add(m.getName());
        }
        for (Class<?> inside : ArithmeticRows.class.getDeclaredClasses()) {
            Check.due(inside + " is static", Modifier.isStatic(inside.getModifiers()), true);
            Check.due(inside + " has few fields", inside.getDeclaredFields().length <= 20, true);
            for (Method m : inside.getDeclaredMethods()) {
                Check.due(inside + " has a name of the face: " + m.getName(), face.contains(m.getName()), false);
            }
            for (Field f : inside.getDeclaredFields()) {
                int is = f.getModifiers();
                Check.due(f + " static and not final", Modifier.isStatic(is) && !Modifier.isFinal(is), false);
            }
        }
    }

    private static void source() throws Exception {
        String text = Files.readString(Path.of("src/main/java/ArithmeticRows.java"));
        String[] ruledOut = {
            "->", "::", "catch", "finally", "try ", "synchronized", "assert ", "Exact(", "package ", "System.out",
            "System.nano", "System.current", "Random", "Thread", "hashCode", "toString", "static {", "while (true",
            "for (;;", "import java.io", "import java.nio", "Object", "double", "float", "null"};
        for (String words : ruledOut) {
            Check.due("the source has " + words, text.contains(words), false);
        }
        for (String line : text.split("\n")) {
            if (line.startsWith("import")) {
                Check.due("an import", line, "import java.util.Arrays;");
            }
        }
    }

    public static void main(String[] args) throws Exception {
        face();
        names();
        source();
        Check.end();
    }
}
