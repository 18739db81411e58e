import java.nio.charset.StandardCharsets;

/** What the tests share: counting the checks, and writing texts. */
final class Check {
    private final String name;
    private int passed = 0;
    private int failed = 0;

    Check(String name) {
        this.name = name;
    }

    void due(String what, long got, long want) {
        if (got == want) {
            passed++;
            return;
        }
        failed++;
        System.out.println(name + ": " + what + " answered " + got + ", due is " + want);
    }

    void dueAll(String what, long[] got, long... want) {
        due(what + " (how many)", got.length, want.length);
        for (int i = 0; i < Math.min(got.length, want.length); i++) {
            due(what + " [" + i + "]", got[i], want[i]);
        }
    }

    /** Ends the test: exit code 1, if a check failed. */
    void end() {
        System.out.println(name + ": " + passed + " checks passed, " + failed + " failed");
        System.exit(failed == 0 ? 0 : 1);
    }

    /** A new object with this text as its village. */
    static FullMoonWho villageOf(String text) {
        FullMoonWho who = new FullMoonWho();
        rewrite(who, text);
        int told = who.village();
        if (told < 0) {
            throw new IllegalStateException("no village: " + text + " answered " + told);
        }
        return who;
    }

    /** Wipes the text and writes another one. */
    static void rewrite(FullMoonWho who, String text) {
        who.wipe();
        byte[] bytes = text.getBytes(StandardCharsets.ISO_8859_1);
        for (int from = 0; from < bytes.length; from += 8) {
            int n = Math.min(8, bytes.length - from);
            long v = 0;
            for (int i = 0; i < n; i++) {
                v = v << 8 | bytes[from + i] & 255;
            }
            who.write(n, v);
        }
    }

    static int faultOf(String text) {
        FullMoonWho who = new FullMoonWho();
        rewrite(who, text);
        return who.fault();
    }
}
