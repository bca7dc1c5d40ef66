import java.io.IOException;
import java.lang.reflect.InvocationTargetException;
import java.lang.reflect.Method;
import java.lang.reflect.Modifier;
import java.nio.file.DirectoryStream;
import java.nio.file.Files;
import java.nio.file.Path;
import java.util.ArrayList;
import java.util.List;
import java.util.Map;
import java.util.Set;
import java.util.TreeMap;
import java.util.TreeSet;
import java.util.regex.Matcher;
import java.util.regex.Pattern;

/** What README.md says holds: its example is done call by call, and its table is looked at beside the class. */
public final class ReadmeTest extends Check {
    private static final Pattern CALL = Pattern.compile("x\\.(\\w+)\\(([^()]*)\\); +// (throws )?(-?\\w+)(\\W.*)?");
    private static final Pattern ROW = Pattern.compile("\\| `(\\w+)\\(([^()]*)\\)` \\| .+ \\|(.*)\\|(.*)\\|");
    private static final Pattern NAMED = Pattern.compile("`(\\w+)`");
    private static final int MOST_CALLS = 512;
    private static final int[] ARGUMENTS = {MIN, -1, 0, 1, 5, 6, 8, 9, 13, 14, 39, 40, 63, 64, 255, 256, MAX};

    private static final Map<String, Method> METHODS = new TreeMap<>();

    public static void main(String[] args) throws IOException, IllegalAccessException {
        for (Method m : PlugRounds.class.getDeclaredMethods()) {
            if (Modifier.isPublic(m.getModifiers())) {
                METHODS.put(m.getName(), m);
            }
        }
        List<String> lines = Files.readAllLines(Path.of("README.md"));
        example(codeOf(lines));
        table(lines);
        sayings(String.join(" ", lines));
        end("ReadmeTest");
    }

    private static List<String> codeOf(List<String> lines) {
        List<String> code = new ArrayList<>();
        boolean isInside = false;
        for (String line : lines) {
            if (line.startsWith("```")) {
                isInside = line.equals("```java");
            } else if (isInside && !line.isBlank() && !line.startsWith("//")) {
                code.add(line);
            }
        }
        return code;
    }

    /** Its first line makes the object, each other one is a call with its answer: one that is neither is wrong. */
    private static void example(List<String> code) throws IllegalAccessException {
        holds("the example makes an object", !code.isEmpty() && code.get(0).equals("PlugRounds x = new PlugRounds();"));
        PlugRounds x = new PlugRounds();
        Set<String> called = new TreeSet<>();
        for (int k = 1; k < code.size(); k++) {
            Matcher m = CALL.matcher(code.get(k));
            boolean isCall = m.matches() && METHODS.containsKey(m.group(1));
            holds("the example's line is a call with its answer: " + code.get(k), isCall);
            if (isCall) {
                String want = m.group(3) == null ? number(m.group(4)) : m.group(4);
                String got = answer(x, METHODS.get(m.group(1)), m.group(2).split(", *"));
                holds(code.get(k) + " answered " + got, got.equals(want));
                called.add(m.group(1));
            }
        }
        holds("the example has each call, " + called, called.equals(METHODS.keySet()));
        holds("the example has 512 calls at most", code.size() - 1 <= MOST_CALLS);
    }

    /** A number as it stands, or the number of one of the face's constants. */
    private static String number(String told) throws IllegalAccessException {
        try {
            return String.valueOf(PlugRounds.class.getField(told).getInt(null));
        } catch (NoSuchFieldException e) {
            return told;
        }
    }

    /** What a call answers, or the name of what it throws. */
    private static String answer(PlugRounds x, Method call, String... arguments) throws IllegalAccessException {
        Class<?>[] types = call.getParameterTypes();
        Object[] values = new Object[types.length];
        for (int i = 0; i < types.length; i++) {
            values[i] = value(types[i], arguments[i]);
        }
        try {
            return call.invoke(x, values).toString();
        } catch (InvocationTargetException e) {
            return e.getCause().getClass().getSimpleName();
        }
    }

    private static Object value(Class<?> type, String told) {
        String digits = told.replace("_", "").replaceAll("L$", "");
        if (type == boolean.class) {
            return told.equals("true");
        }
        if (type == long.class) {
            return Long.decode(digits);
        }
        return Integer.decode(digits);
    }

    /** Each call has its row, with the refusals and the exceptions that it has been seen to answer, and no others. */
    private static void table(List<String> lines) throws IllegalAccessException {
        Set<String> told = new TreeSet<>();
        for (String line : lines) {
            Matcher m = ROW.matcher(line);
            if (m.matches() && METHODS.containsKey(m.group(1))) {
                told.add(m.group(1));
                row(METHODS.get(m.group(1)), m.group(2), named(m.group(3)), named(m.group(4)));
            }
        }
        holds("the table has each call, " + told, told.equals(METHODS.keySet()));
    }

    private static Set<String> named(String cell) {
        Set<String> names = new TreeSet<>();
        Matcher m = NAMED.matcher(cell);
        while (m.find()) {
            names.add(m.group(1));
        }
        return names;
    }

    private static void row(Method call, String parameters, Set<String> refused, Set<String> thrown)
        throws IllegalAccessException {
        int count = parameters.isEmpty() ? 0 : parameters.split(",").length;
        due("parameters of " + call.getName(), count, call.getParameterCount());
        Set<String> declared = new TreeSet<>();
        for (Class<?> type : call.getExceptionTypes()) {
            declared.add(type.getSimpleName());
        }
        holds(call.getName() + " throws " + declared, declared.equals(thrown));
        Set<String> want = new TreeSet<>(thrown);
        for (String name : refused) {
            want.add(number(name));
        }
        Set<String> seen = seen(call);
        holds(call.getName() + " is refused or throws " + seen + ", README.md has " + want, seen.equals(want));
    }

    /** All refusals and exceptions of a call, over objects that are new, in use and full, and the edges of arguments. */
    private static Set<String> seen(Method call) throws IllegalAccessException {
        int ways = 1;
        for (int i = 0; i < call.getParameterCount(); i++) {
            ways *= ARGUMENTS.length;
        }
        Set<String> seen = new TreeSet<>();
        for (int state = RefusalsTest.NEW; state <= RefusalsTest.FILLED; state++) {
            for (int way = 0; way < ways; way++) {
                String answer = answer(RefusalsTest.object(state), call, arguments(call, way));
                if (answer.matches("-10[1-4]|[A-Z].*")) {
                    seen.add(answer);
                }
            }
        }
        return seen;
    }

    private static String[] arguments(Method call, int way) {
        String[] arguments = new String[call.getParameterCount()];
        int rest = way;
        for (int i = 0; i < arguments.length; i++) {
            arguments[i] = String.valueOf(ARGUMENTS[rest % ARGUMENTS.length]);
            rest /= ARGUMENTS.length;
        }
        return arguments;
    }

    /** How long an object is used, how the tests are run, and which ones there are. */
    private static void sayings(String text) throws IOException {
        holds("README.md tells of 512 calls", text.contains("An object is used for at most 512 calls after it has been made"));
        holds("README.md tells of .ci/run", text.contains(".ci/run"));
        try (DirectoryStream<Path> tests = Files.newDirectoryStream(Path.of("src/test/java"), "*Test.java")) {
            for (Path test : tests) {
                String name = test.getFileName().toString().replace(".java", "");
                holds("README.md tells of " + name, text.contains("`" + name + "`"));
            }
        }
    }
}
