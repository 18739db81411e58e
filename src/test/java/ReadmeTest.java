import java.io.IOException;
import java.lang.reflect.Method;
import java.lang.reflect.Modifier;
import java.nio.file.Files;
import java.nio.file.Path;
import java.util.List;
import java.util.regex.Matcher;
import java.util.regex.Pattern;

/** README.md: its examples answer what it says behind them, and it names every call. */
final class ReadmeTest {
    private static final Check check = new Check("ReadmeTest");
    private static final Pattern CALL = Pattern.compile("who\\.(\\w+)\\((.*)\\); +// (\\w+|-\\d+)(:? .*)?");
    /** Fewer lines than this were read if the form of the examples is another one by now. */
    private static final int CALLS_LEAST = 30;

    private static FullMoonWho who = new FullMoonWho();
    private static int calls = 0;

    public static void main(String[] args) throws IOException, ReflectiveOperationException {
        List<String> lines = Files.readAllLines(Path.of("README.md"));
        boolean inExample = false;
        for (int i = 0; i < lines.size(); i++) {
            String line = lines.get(i);
            if (line.startsWith("```")) {
                inExample = line.equals("```java");
            } else if (inExample && line.equals("FullMoonWho who = new FullMoonWho();")) {
                who = new FullMoonWho();
            } else if (inExample && line.startsWith("who.")) {
                example("line " + (i + 1) + ": " + line, line);
            }
        }
        check.due("examples, at least", Math.min(calls, CALLS_LEAST), CALLS_LEAST);
        everyCallIsNamed(String.join("\n", lines));
        check.end();
    }

    private static void example(String where, String line) throws ReflectiveOperationException {
        Matcher call = CALL.matcher(line);
        if (!call.matches()) {
            check.due(where + " (is a call with its answer)", 0, 1);
            return;
        }
        Method method = methodNamed(call.group(1));
        String[] told = call.group(2).isEmpty() ? new String[0] : call.group(2).split(", ");
        Class<?>[] kinds = method.getParameterTypes();
        check.due(where + " (how many arguments)", told.length, kinds.length);
        Object[] arguments = new Object[kinds.length];
        for (int i = 0; i < kinds.length && i < told.length; i++) {
            arguments[i] = argument(kinds[i], told[i]);
        }
        calls++;
        check.due(where, ((Number) method.invoke(who, arguments)).longValue(), number(call.group(3)));
    }

    private static Method methodNamed(String name) throws NoSuchMethodException {
        for (Method method : FullMoonWho.class.getDeclaredMethods()) {
            if (Modifier.isPublic(method.getModifiers()) && method.getName().equals(name)) {
                return method;
            }
        }
        throw new NoSuchMethodException(name);
    }

    private static Object argument(Class<?> kind, String told) throws ReflectiveOperationException {
        if (kind == boolean.class) {
            return told.equals("true");
        }
        long value = told.startsWith("'") ? told.charAt(1) : number(told);
        return kind == int.class ? (Object) (int) value : (Object) value;
    }

    private static long number(String told) throws ReflectiveOperationException {
        if (Character.isUpperCase(told.charAt(0))) {
            return FullMoonWho.class.getField(told).getInt(null);
        }
        return Long.decode(told.endsWith("L") ? told.substring(0, told.length() - 1) : told);
    }

    private static void everyCallIsNamed(String text) {
        for (Method method : FullMoonWho.class.getDeclaredMethods()) {
            if (Modifier.isPublic(method.getModifiers())) {
                check.due(method.getName() + " is named", text.contains("`" + method.getName() + "(") ? 1 : 0, 1);
            }
        }
        for (String name : new String[] {"UNKNOWN (-1)", "OUTSIDE (-2)", "STATE (-3)", "FULL (-4)", "NONE (-9)"}) {
            check.due(name + " is named", text.contains(name) ? 1 : 0, 1);
        }
    }
}
