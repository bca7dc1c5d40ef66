import java.io.IOException;
import java.lang.reflect.Constructor;
import java.lang.reflect.Field;
import java.lang.reflect.Method;
import java.lang.reflect.Modifier;
import java.nio.charset.StandardCharsets;
import java.nio.file.Files;
import java.nio.file.Path;
import java.util.ArrayList;
import java.util.Arrays;
import java.util.HashSet;
import java.util.List;
import java.util.Set;
import java.util.TreeSet;

/** The public face is the document's, and what LANGUAGE.md rules out can be looked for in the source. */
public final class FaceTest {
    private static final String AIOOBE = " throws ArrayIndexOutOfBoundsException";
    private static final String[] METHODS = {
        "int about(int)", "int anew()", "int cell(int)" + AIOOBE + ", NullPointerException", "int clear()",
        "int define(int)", "int fails(int, boolean)", "int feed(int, long)", "int judge(int)", "int lay(int)",
        "int marks(int, int)", "int message(int, int)", "int mirror(int, int)", "byte octet(int, int)" + AIOOBE,
        "int option(int, int)", "int pass(boolean)", "int plant(int, int, int)", "int resource(int, int)" + AIOOBE,
        "int run(int)", "int told(int, int)", "int unit(int, int)"};
    private static final String[] CONSTANTS = {"NONE", "UNKNOWN", "OUTSIDE", "STATE", "FULL"};
    private static final String[] RULED_OUT = {
        "import ", "catch", "finally", "->", "::", "synchronized", "assert ", "getMessage", "System.", "Thread", "double",
        "float", "hashCode", "toString", "static {", "package "};

    public static void main(String[] args) throws IOException {
        methods();
        constants();
        constructors();
        classesInside();
        source();
        Check.end("FaceTest");
    }

    private static String names(Class<?>[] types) {
        List<String> all = new ArrayList<>();
        for (Class<?> type : types) {
            all.add(type.getSimpleName());
        }
        return String.join(", ", all);
    }

    private static String told(Method m) {
        String thrown = names(m.getExceptionTypes());
        return m.getReturnType().getSimpleName() + " " + m.getName() + "(" + names(m.getParameterTypes()) + ")"
            + (thrown.isEmpty() ? "" : " throws " + thrown);
    }

    // The public face: each method as it is told there, with what it throws, and no other; LANGUAGE.md, rule 1
    private static void methods() {
        Set<String> open = new TreeSet<>();
        Set<String> publicNames = new HashSet<>();
        Set<String> privateNames = new HashSet<>();
        for (Method m : PlugRounds.class.getDeclaredMethods()) {
            if (Modifier.isPrivate(m.getModifiers()) || m.isSynthetic()) {
                privateNames.add(m.getName());
                continue;
            }
            Check.holds(m + " is public and no more", m.getModifiers() == Modifier.PUBLIC);
            open.add(told(m));
            publicNames.add(m.getName());
        }
        Set<String> want = new TreeSet<>(Arrays.asList(METHODS));
        Check.holds("methods " + open + ", due are " + want, open.equals(want));
        privateNames.retainAll(publicNames);
        Check.holds("private methods with public names: " + privateNames, privateNames.isEmpty());
    }

    // The public face: "public static final int NONE = -1, UNKNOWN = -101, OUTSIDE = -102, STATE = -103, FULL = -104;"
    private static void constants() {
        Set<String> open = new TreeSet<>();
        for (Field f : PlugRounds.class.getDeclaredFields()) {
            int how = f.getModifiers();
            if (!Modifier.isPrivate(how)) {
                open.add(f.getName());
                Check.holds(f + " is an int constant", how == (Modifier.PUBLIC | Modifier.STATIC | Modifier.FINAL)
                    && f.getType() == int.class);
            }
            Check.holds(f + " is final, if static", !Modifier.isStatic(how) || Modifier.isFinal(how));
        }
        Check.holds("constants " + open, open.equals(new TreeSet<>(Arrays.asList(CONSTANTS))));
        Check.due("NONE", PlugRounds.NONE, -1);
        Check.due("UNKNOWN", PlugRounds.UNKNOWN, -101);
        Check.due("OUTSIDE", PlugRounds.OUTSIDE, -102);
        Check.due("STATE", PlugRounds.STATE, -103);
        Check.due("FULL", PlugRounds.FULL, -104);
    }

    // The public face: "public final class PlugRounds", "public PlugRounds();"
    private static void constructors() {
        Constructor<?>[] all = PlugRounds.class.getDeclaredConstructors();
        Check.due("constructors", all.length, 1);
        Check.holds("it is public", Modifier.isPublic(all[0].getModifiers()));
        Check.due("its parameters", all[0].getParameterCount(), 0);
        int how = PlugRounds.class.getModifiers();
        Check.holds("the class is public and final", Modifier.isPublic(how) && Modifier.isFinal(how));
    }

    // LANGUAGE.md, rules 1, 2 and 11: classes inside are static and not open, some twelve, of some twenty fields
    private static void classesInside() {
        Class<?>[] inside = PlugRounds.class.getDeclaredClasses();
        Check.holds("some twelve classes at most", inside.length < 12);
        for (Class<?> c : inside) {
            int how = c.getModifiers();
            Check.holds(c + " is static and not open", Modifier.isStatic(how)
                && !Modifier.isPublic(how) && !Modifier.isProtected(how));
            Check.holds(c + " has some twenty fields at most", c.getDeclaredFields().length <= 20);
        }
    }

    // LANGUAGE.md, rules 2, 3, 4, 5, 6 and 13: words that the program has no need of
    private static void source() throws IOException {
        Path path = Path.of("src/main/java/PlugRounds.java");
        String text = new String(Files.readAllBytes(path), StandardCharsets.ISO_8859_1);
        for (String word : RULED_OUT) {
            Check.holds("the source is without '" + word + "'", !text.contains(word));
        }
    }
}
