import java.io.IOException;
import java.lang.reflect.Constructor;
import java.lang.reflect.Field;
import java.lang.reflect.Method;
import java.lang.reflect.Modifier;
import java.nio.charset.StandardCharsets;
import java.nio.file.Files;
import java.nio.file.Path;
import java.util.Arrays;
import java.util.Set;
import java.util.TreeSet;
import java.util.regex.Matcher;
import java.util.regex.Pattern;

/** The face of the document, and those rules of LANGUAGE.md that a look at the class or its text can tell. */
final class FaceTest {
    private static final String[] FACE = {
        "int add(int,int,int) IllegalArgumentException IllegalStateException",
        "int change(int,int,int) IndexOutOfBoundsException IllegalArgumentException",
        "int removeLast() IllegalStateException",
        "int set(int,int) IndexOutOfBoundsException IllegalArgumentException",
        "int mail(int,int) IndexOutOfBoundsException IllegalStateException",
        "int mailAll(int,int) IndexOutOfBoundsException IllegalArgumentException",
        "int forget(int) IndexOutOfBoundsException",
        "int catchUp(int) IndexOutOfBoundsException",
        "int append(int) IllegalArgumentException IllegalStateException",
        "int clearBuffer()",
        "int firstError()",
        "int addAll() IllegalArgumentException IllegalStateException",
        "int undo() IllegalStateException",
        "int part(int,int) IndexOutOfBoundsException IllegalArgumentException",
        "int knows(int,int) IndexOutOfBoundsException",
        "int reader(int,int) IndexOutOfBoundsException IllegalArgumentException",
        "int plot(int,int) IndexOutOfBoundsException IllegalArgumentException",
        "int count(int) IllegalArgumentException",
        "int setting(int) IndexOutOfBoundsException",
        "int recap(int,int,int) IndexOutOfBoundsException IllegalArgumentException",
        "int easiest(int) IndexOutOfBoundsException",
        "int enough(int) IndexOutOfBoundsException",
        "double readShare()",
        "long digest()"};
    private static final String[] RULED_OUT = {"import", "package", "->", "::", "finally", "assert", "synchronized",
        "getMessage", "Double", "Float", "Object", "Exact", "static {", "+ \"", "\" +"};
    private static final Set<Class<?>> CONSTANTS = Set.of(int.class, long.class, boolean.class, char.class,
        String.class);
    /** The classes of the library that rules 3, 4 and 6 list, but for interfaces. */
    private static final Set<String> LIBRARY = Set.of("Integer", "Long", "Math", "System", "String", "StringBuilder",
        "Arrays", "ArrayList", "List", "IllegalStateException", "IllegalArgumentException",
        "IndexOutOfBoundsException", "ArithmeticException", "UnsupportedOperationException",
        "NoSuchElementException", "RuntimeException");
    private static final Pattern CLASS_NAME = Pattern.compile("\\b[A-Z]\\w*[a-z]\\w*");
    private static final Pattern OF_SYSTEM = Pattern.compile("\\bSystem\\.(\\w+)");
    private static final Pattern THROW = Pattern.compile("\\bthrow\\b([^;]*);");
    private static final String WRITTEN = " new \\w+Exception\\((\"\")?\\)";
    private static final int MOST_LINES = 60;
    private static final int MOST_PARAMETERS = 7;

    public static void main(String[] args) throws IOException {
        face();
        inside();
        String text = Files.readString(Path.of("src/main/java/SerialRecaps.java"), StandardCharsets.ISO_8859_1);
        text(text);
        library(bare(text).replaceAll("\"[^\"]*\"", "\"\""));
        Checks.end();
    }

    private static void face() {
        Set<String> names = new TreeSet<>();
        Set<String> got = new TreeSet<>();
        for (Method m : SerialRecaps.class.getDeclaredMethods()) {
            if (!Modifier.isPrivate(m.getModifiers())) {
                Checks.due("1: " + m + " is public alone", Modifier.PUBLIC, m.getModifiers());
                got.add(signature(m));
                names.add(m.getName());
            }
        }
        Checks.due("1: the methods", new TreeSet<>(Arrays.asList(FACE)), got);
        for (Method m : SerialRecaps.class.getDeclaredMethods()) {
            boolean takes = Modifier.isPrivate(m.getModifiers()) && names.contains(m.getName());
            Checks.due("1: " + m + " takes the name of a public one", false, takes);
        }
        Constructor<?>[] made = SerialRecaps.class.getDeclaredConstructors();
        Checks.due("1: one constructor", 1, made.length);
        Checks.due("1: public", Modifier.PUBLIC, made[0].getModifiers());
        Checks.due("1: without parameters", 0, made[0].getParameterCount());
        Checks.due("1: public final", Modifier.PUBLIC | Modifier.FINAL, SerialRecaps.class.getModifiers());
        Checks.due("1: it stands on nothing", Object.class, SerialRecaps.class.getSuperclass());
        Checks.due("1: it promises no more", 0, SerialRecaps.class.getInterfaces().length);
    }

    private static String signature(Method m) {
        StringBuilder text = new StringBuilder(m.getReturnType() + " " + m.getName() + "(");
        for (Class<?> type : m.getParameterTypes()) {
            text.append(text.charAt(text.length() - 1) == '(' ? "" : ",").append(type);
        }
        text.append(')');
        for (Class<?> type : m.getExceptionTypes()) {
            text.append(' ').append(type.getSimpleName());
        }
        return text.toString();
    }

    private static void inside() {
        Class<?>[] inner = SerialRecaps.class.getDeclaredClasses();
        Checks.due("rule 11: some twelve classes", true, inner.length < 12);
        fields(SerialRecaps.class);
        parameters(SerialRecaps.class);
        for (Class<?> c : inner) {
            parameters(c);
            boolean hidden = (c.getModifiers() & (Modifier.PUBLIC | Modifier.PROTECTED)) == 0;
            Checks.due("rule 1: " + c + " is hidden and static", true, hidden && Modifier.isStatic(c.getModifiers()));
            fields(c);
        }
    }

    private static void parameters(Class<?> c) {
        for (Method m : c.getDeclaredMethods()) {
            Checks.due("rule 11: the parameters of " + m, true, m.getParameterCount() <= MOST_PARAMETERS);
        }
    }

    private static void fields(Class<?> c) {
        int own = 0;
        for (Field f : c.getDeclaredFields()) {
            if (Modifier.isStatic(f.getModifiers())) {
                Checks.due("rule 5: " + f + " is final", true, Modifier.isFinal(f.getModifiers()));
                Checks.due("rule 5: " + f + " is a constant", true, CONSTANTS.contains(f.getType()));
            } else {
                own++;
            }
            boolean seen = c == SerialRecaps.class && !Modifier.isPrivate(f.getModifiers());
            Checks.due("1: " + f + " is seen", f.getName().equals("NONE"), seen);
        }
        Checks.due("rule 11: some twenty fields", true, own <= 20);
    }

    private static void text(String text) {
        for (String word : RULED_OUT) {
            Checks.due("the text has " + word, false, bare(text).contains(word));
        }
        for (char c : text.toCharArray()) {
            if (c > 126 || c < 32 && c != '\n') {
                Checks.due("rule 4: a sign of the text", "32 to 126", (int) c);
            }
        }
        int began = 0;
        String[] lines = text.split("\n");
        for (int i = 0; i < lines.length; i++) {
            if (lines[i].endsWith(") {") || lines[i].endsWith("Exception {")) {
                began = i;
            }
            boolean method = lines[i].equals("    }") || lines[i].equals("        }");
            Checks.due("rule 11: long at line " + (i + 1), false, method && i - began > MOST_LINES);
        }
    }

    /** Of the text without comments and without what its written texts say. */
    private static void library(String text) {
        Set<String> own = new TreeSet<>(Set.of("SerialRecaps"));
        for (Class<?> c : SerialRecaps.class.getDeclaredClasses()) {
            own.add(c.getSimpleName());
        }
        Matcher name = CLASS_NAME.matcher(text);
        while (name.find()) {
            boolean listed = own.contains(name.group()) || LIBRARY.contains(name.group());
            Checks.due("rule 4: " + name.group() + " is listed", true, listed);
        }
        Matcher system = OF_SYSTEM.matcher(text);
        while (system.find()) {
            Checks.due("rule 4: of System", "arraycopy", system.group(1));
        }
        Matcher thrown = THROW.matcher(text);
        while (thrown.find()) {
            Checks.due("rule 6: throw" + thrown.group(1), true, thrown.group(1).matches(WRITTEN));
        }
    }

    /** Without comments, which may say any word. */
    private static String bare(String text) {
        return text.replaceAll("(?s)/\\*.*?\\*/", "").replaceAll("//[^\n]*", "");
    }
}
