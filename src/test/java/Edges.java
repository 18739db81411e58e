import java.lang.reflect.InvocationTargetException;
import java.lang.reflect.Method;
import java.lang.reflect.Modifier;
import java.util.Arrays;
import java.util.Comparator;
import java.util.List;
import java.util.function.Supplier;
import java.util.function.ToLongFunction;

/**
 * What the tests of the edges share. Each of their methods holds one sentence of the document that
 * names an edge: its name begins with the promise (p07_..) or with "terms", the comment above it has
 * the sentence's own words. All methods that are not private are run, so that none is forgotten.
 */
abstract class Edges {
    static final int UNKNOWN = FullMoonWho.UNKNOWN, OUTSIDE = FullMoonWho.OUTSIDE, STATE = FullMoonWho.STATE;
    static final int FULL = FullMoonWho.FULL, NONE = FullMoonWho.NONE;

    /** A wolf of house 0 with one that is none in house 1. */
    static final String PAIR = "VH00H00R010P01P10";
    /** As many houses, paths, people as there can be. */
    static final String ALL = "VH00H00H00H00R010R020R030R120R130R230P01P00P10P11P20P30";
    /** Six of one house, with one to go to. */
    static final String SIX = "VH00H00R010P00P00P00P00P00P00";

    private static Check check = new Check("none");
    private static String test = "";

    /** Runs all the tests of a class in the order of their names, and ends with exit code 1, if one failed. */
    static void runAll(Class<?> tests) throws IllegalAccessException {
        check = new Check(tests.getSimpleName());
        Method[] methods = tests.getDeclaredMethods();
        Arrays.sort(methods, Comparator.comparing(Method::getName));
        for (Method method : methods) {
            if (!Modifier.isPrivate(method.getModifiers()) && !method.getName().equals("main")) {
                test = method.getName();
                due("is named after a promise, or terms", test.matches("(p\\d\\d|terms)_\\w+") ? 1 : 0, 1);
                runOne(method);
            }
        }
        check.end();
    }

    private static void runOne(Method method) throws IllegalAccessException {
        try {
            method.invoke(null);
        } catch (InvocationTargetException thrown) {
            thrown.getCause().printStackTrace(System.out);
            due("throws nothing", 1, 0);
        }
    }

    static void due(String what, long got, long want) {
        check.due(test + ": " + what, got, want);
    }

    /** A new object with this text as its village. */
    static FullMoonWho of(String text) {
        return Check.villageOf(text);
    }

    /** Numbers that are none of least to greatest: one below, one above, and some by which sums and shifts wrap. */
    static int[] not(int least, int greatest) {
        return new int[] {least - 1, greatest + 1, least - 32, greatest + 32, least + 64, least - 256, least + 256,
            least + 65536, Integer.MIN_VALUE, Integer.MIN_VALUE + greatest, Integer.MAX_VALUE};
    }

    /** A call answers as is due, and all is behind it as it was: as with a like object that wasn't called. */
    static void changesNothing(String what, Supplier<FullMoonWho> made, ToLongFunction<FullMoonWho> call, long want) {
        FullMoonWho called = made.get();
        due(what, call.applyAsLong(called), want);
        List<String> got = Look.of(called);
        List<String> was = Look.of(made.get());
        for (int i = 0; i < Math.min(got.size(), was.size()); i++) {
            if (!got.get(i).equals(was.get(i))) {
                System.out.println(test + ": behind " + what + " " + got.get(i) + ", was " + was.get(i));
            }
        }
        due("nothing has changed behind " + what, got.equals(was) ? 1 : 0, 1);
    }

    /** The refused call in an object in which there is some of everything, and in one in which all is full. */
    static void refused(String what, ToLongFunction<FullMoonWho> call, long want) {
        changesNothing(what, Edges::some, call, want);
        changesNothing(what + " (full)", Edges::full, call, want);
    }

    /**
     * Some of everything: 4 houses, 6 people, acts, sights, both slots, a seed, a text that has not ended.
     * By then it is night 1; 0 and 4 (wolves) are out, 3 is bitten, 5 is hanged; house 3 is barred.
     */
    static FullMoonWho some() {
        FullMoonWho who = of("VH00H20H10H02R010R021R230R130P01P10P20P30P11P20K12");
        who.keep(1);
        who.visit(0, 1);
        who.visit(4, 0);
        who.dawn();
        who.bolt(3, 0);
        who.visit(4, 3);
        who.keep(0);
        who.hang(5);
        who.visit(0, 2);
        who.bolt(3, 2);
        who.track(0, 1, 1);
        who.hungry(1, 0, true);
        who.spoon(2, false);
        who.seed(77);
        who.write(1, 'H');
        return who;
    }

    /** Likewise; a text of 96 bytes, 16 acts, 6 sights. */
    static FullMoonWho full() {
        FullMoonWho who = some();
        who.track(2, 0, 0);
        who.hungry(0, 2, false);
        who.spoon(3, true);
        for (int i = 0; i < 4; i++) {
            who.bolt(1, 1);
            who.bolt(1, 0);
        }
        for (int length = who.count(0); length < 96; length++) {
            who.write(1, '0');
        }
        return who;
    }

    static void likely(FullMoonWho who, int person, long above, long below) {
        due("likely(" + person + ") above", who.likely(person, true), above);
        due("likely(" + person + ") below", who.likely(person, false), below);
    }

    static void danger(FullMoonWho who, int person, int n, long above, long below) {
        due("danger(" + person + ", " + n + ") above", who.danger(person, n, true), above);
        due("danger(" + person + ", " + n + ") below", who.danger(person, n, false), below);
    }
}
