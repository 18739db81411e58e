import java.io.IOException;
import java.lang.management.ManagementFactory;
import java.lang.reflect.Constructor;
import java.lang.reflect.Field;
import java.lang.reflect.Method;
import java.lang.reflect.Modifier;
import java.nio.file.Files;
import java.nio.file.Path;
import java.util.TreeSet;
import java.util.regex.Matcher;
import java.util.regex.Pattern;

/** The face of the document, the rules of LANGUAGE.md that can be read off the source, and the room that calls take. */
final class RulesTest {
    private static final Check check = new Check("RulesTest");
    private static final String[] FACE = {
        "int write(int, long)", "int wipe()", "int fault()", "int village()", "int house(int, int)",
        "int person(int, int)", "int may(int)", "int prey(int, int)", "int visit(int, int)", "int dawn()",
        "int hang(int)", "int bolt(int, int)", "int undo()", "int judge(int, int)", "int first(int)",
        "int line(int)", "int brood(int)", "int track(int, int, int)", "int hungry(int, int, boolean)",
        "int spoon(int, boolean)", "int unsee()", "long tales()", "int sets()", "int setAt(int)", "int sure(int)",
        "long likely(int, boolean)", "int toTest()", "int tests()", "int vote(int)", "int hanged()", "int safe()",
        "int locked()", "long danger(int, int, boolean)", "long seed(long)", "int years(int)", "int keep(int)",
        "int again(int)", "int count(int)"};
    private static final String[] FORBIDDEN = {
        "throw", "throws", "try", "catch", "finally", "synchronized", "assert", "import", "package", "instanceof",
        "equals", "hashCode", "toString", "double", "float", "volatile", "native", "goto", "var", "yield"};
    /** Long since above what the dearest call makes in 512 calls. */
    private static final long BYTES_MOST = 300_000;

    public static void main(String[] args) throws IOException {
        face();
        source(Files.readString(Path.of("src/main/java/FullMoonWho.java")));
        room();
        check.end();
    }

    private static void face() {
        Class<?> face = FullMoonWho.class;
        check.due("public and final", face.getModifiers(), Modifier.PUBLIC | Modifier.FINAL);
        TreeSet<String> open = new TreeSet<>();
        TreeSet<String> hidden = new TreeSet<>();
        for (Method method : face.getDeclaredMethods()) {
            if (Modifier.isPrivate(method.getModifiers())) {
                hidden.add(method.getName());
            } else {
                String parameters = java.util.Arrays.stream(method.getParameterTypes()).map(Class::getName)
                        .collect(java.util.stream.Collectors.joining(", "));
                open.add(method.getReturnType() + " " + method.getName() + "(" + parameters + ")");
                check.due(method.getName() + " is public", method.getModifiers(), Modifier.PUBLIC);
            }
        }
        for (Class<?> inside : face.getDeclaredClasses()) {
            check.due(inside + " is private, static", inside.getModifiers() & (Modifier.PRIVATE | Modifier.STATIC),
                    Modifier.PRIVATE | Modifier.STATIC);
            for (Method method : inside.getDeclaredMethods()) {
                hidden.add(method.getName());
            }
            check.due(inside + " has few fields", Math.max(20, inside.getDeclaredFields().length), 20);
        }
        check.due("classes", Math.max(12, face.getDeclaredClasses().length), 12);
        TreeSet<String> due = new TreeSet<>(java.util.List.of(FACE));
        check.due("the methods are " + open, open.equals(due) ? 1 : 0, 1);
        for (String method : FACE) {
            String name = method.substring(method.indexOf(' ') + 1, method.indexOf('('));
            check.due("hidden method " + name, hidden.contains(name) ? 1 : 0, 0);
        }
        for (Field field : face.getDeclaredFields()) {
            boolean constant = field.getName().matches("UNKNOWN|OUTSIDE|STATE|FULL|NONE");
            check.due(field.getName(), Modifier.isPrivate(field.getModifiers()) ? 0 : 1, constant ? 1 : 0);
        }
        Constructor<?>[] made = face.getDeclaredConstructors();
        check.due("one constructor", made.length, 1);
        check.due("it is public", made[0].getModifiers(), Modifier.PUBLIC);
    }

    private static void source(String whole) {
        String code = whole.replaceAll("(?s)/\\*.*?\\*/", "").replaceAll("//[^\n]*", "").replaceAll("'[^']*'", "0");
        for (String word : FORBIDDEN) {
            check.due("the word " + word, Pattern.compile("\\b" + word + "\\b").matcher(code).find() ? 1 : 0, 0);
        }
        for (String sign : new String[] {"->", "::", "Exact(", "\"", "Object", "System.", "Thread", "Random"}) {
            check.due("the sign " + sign, code.contains(sign) ? 1 : 0, 0);
        }
        Matcher library = Pattern.compile("\\b(Math|Integer|Long|Arrays|String|StringBuilder)\\.(\\w+)").matcher(code);
        while (library.find()) {
            check.due(library.group(), library.group(2).matches("max|min|bitCount") ? 1 : 0, 1);
        }
        Matcher parameters = Pattern.compile("\\w+ \\w+\\(([^()]*)\\) \\{").matcher(code);
        while (parameters.find()) {
            check.due(parameters.group(), Math.max(7, parameters.group(1).split(",").length), 7);
        }
        int from = 0;
        String[] lines = code.split("\n");
        for (int i = 0; i < lines.length; i++) {
            if (lines[i].matches(" {4,8}\\w.*\\) \\{")) {
                from = i;
            }
            if (lines[i].matches(" {4,8}\\}")) {
                check.due("lines up to " + (i + 1), Math.max(60, i - from), 60);
            }
        }
    }

    private static void room() {
        com.sun.management.ThreadMXBean bean =
                (com.sun.management.ThreadMXBean) ManagementFactory.getThreadMXBean();
        String text = "VH00H10H00H00R010R020R030R120R130R230P01P11P21P30P01P10K01";
        for (int kind = 0; kind < 12; kind++) {
            FullMoonWho who = Check.villageOf(text);
            who.track(0, 1, 2);
            who.track(1, 2, 2);
            who.track(2, 3, 1);
            long before = bean.getThreadAllocatedBytes(Thread.currentThread().getId());
            for (int i = 0; i < 512; i++) {
                dearCall(who, kind);
            }
            long made = bean.getThreadAllocatedBytes(Thread.currentThread().getId()) - before;
            check.due("room of 512 calls of kind " + kind + ": " + made, Math.max(BYTES_MOST, made), BYTES_MOST);
        }
    }

    private static void dearCall(FullMoonWho who, int kind) {
        switch (kind) {
            case 0 -> who.village();
            case 1 -> who.fault();
            case 2 -> who.tests();
            case 3 -> who.hanged();
            case 4 -> who.danger(3, 2, true);
            case 5 -> who.years(30);
            case 6 -> who.locked();
            case 7 -> who.keep(0);
            case 8 -> who.again(0);
            case 9 -> who.judge(4, 1122130);
            case 10 -> who.dawn();
            default -> who.undo();
        }
    }
}
