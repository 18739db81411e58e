/** The edges of promises 16 to 18 (first, line, brood) and of the terms that they take up. */
final class EdgesLinesTest extends Edges {
    public static void main(String[] args) throws IllegalAccessException {
        runAll(EdgesLinesTest.class);
    }

    /** Each bites the next one, five bites in five nights: no line is longer. */
    private static FullMoonWho longestLine() {
        FullMoonWho who = of("VH00H00R010P01P10P00P10P00P10");
        for (int p = 0; p < 5; p++) {
            who.visit(p, 1 - p % 2);
            who.dawn();
        }
        return who;
    }

    /** The same the other way round: the last person bites the one ahead of it, and so on. */
    private static FullMoonWho longestLineBack() {
        FullMoonWho who = of("VH00H00R010P10P00P10P00P10P01K05K25K14K03");
        for (int p = 5; p > 0; p--) {
            who.visit(p, p % 2);
            who.dawn();
        }
        return who;
    }

    // ---- promise 16

    /** "UNKNOWN." */
    static void p16_unknown() {
        for (int p : not(0, 5)) {
            refused("first(" + p + ")", who -> who.first(p), UNKNOWN);
        }
        for (int p : not(0, 0)) {
            due("first(" + p + ") of one", of("VH00P01").first(p), UNKNOWN);
        }
    }

    /** "itself, if nobody BIT it": wolves and others, the first and the last person. */
    static void p16_itself() {
        FullMoonWho who = of(ALL);
        for (int p = 0; p < 6; p++) {
            due("itself", who.first(p), p);
        }
    }

    /** "else THE FIRST of the one that did": as far as can be. */
    static void p16_longestLine() {
        FullMoonWho who = longestLine();
        for (int p = 0; p < 6; p++) {
            due("the first of all", who.first(p), 0);
            due("the first of all, back", longestLineBack().first(p), 5);
        }
    }

    /** "if nobody BIT it": when the bite is undone, or gone on from ahead of it, nobody did. */
    static void p16_biteUndone() {
        FullMoonWho who = of(PAIR);
        who.keep(0);
        who.visit(0, 1);
        due("bitten", who.first(1), 0);
        who.undo();
        due("undone", who.first(1), 1);
        who.visit(0, 1);
        who.again(0);
        due("gone on from ahead of it", who.first(1), 1);
    }

    /** "THE FIRST of the one that did": a HANGED one, too. */
    static void p16_hanged() {
        FullMoonWho who = longestLine();
        for (int p = 0; p < 6; p++) {
            who.hang(p);
        }
        due("all are hanged", who.first(5), 0);
    }

    // ---- promise 17

    /** "UNKNOWN." */
    static void p17_unknown() {
        for (int p : not(0, 5)) {
            refused("line(" + p + ")", who -> who.line(p), UNKNOWN);
        }
        for (int p : not(0, 0)) {
            due("line(" + p + ") of one", of("VH00P01").line(p), UNKNOWN);
        }
    }

    /** "how many bites lie between": none. */
    static void p17_none() {
        FullMoonWho who = of(ALL);
        for (int p = 0; p < 6; p++) {
            due("none", who.line(p), 0);
        }
    }

    /** "how many bites lie between": up to five. */
    static void p17_longestLine() {
        FullMoonWho who = longestLine();
        for (int p = 0; p < 6; p++) {
            due("bites", who.line(p), p);
            due("bites, back", longestLineBack().line(p), 5 - p);
        }
    }

    /** "how many bites lie between": one by each of five, when one wolf bites them all. */
    static void p17_manyShortLines() {
        FullMoonWho who = of("VH00H00R010P01P10P10P10P10P10");
        for (int p = 1; p < 6; p++) {
            due("bites", who.visit(0, 1), p);
            who.dawn();
        }
        for (int p = 1; p < 6; p++) {
            due("one bite", who.line(p), 1);
            due("first", who.first(p), 0);
        }
    }

    // ---- promise 18

    /** "UNKNOWN." */
    static void p18_unknown() {
        for (int p : not(0, 5)) {
            refused("brood(" + p + ")", who -> who.brood(p), UNKNOWN);
        }
        for (int p : not(0, 0)) {
            due("brood(" + p + ") of one", of("VH00P01").brood(p), UNKNOWN);
        }
    }

    /** "All of whom one is THE FIRST": itself alone. */
    static void p18_itselfAlone() {
        FullMoonWho who = of(ALL);
        for (int p = 0; p < 6; p++) {
            due("itself", who.brood(p), 1 << p);
        }
    }

    /** "All of whom one is THE FIRST": nobody, if somebody BIT it. */
    static void p18_nobody() {
        FullMoonWho who = longestLine();
        for (int p = 1; p < 6; p++) {
            due("nobody", who.brood(p), 0);
        }
    }

    /** "All of whom one is THE FIRST": all people. */
    static void p18_all() {
        due("all", longestLine().brood(0), 63);
        due("all, back", longestLineBack().brood(5), 63);
        FullMoonWho who = of("VH00H00R010P10P10P10P10P10P01");
        for (int p = 0; p < 5; p++) {
            who.visit(5, 1);
            who.dawn();
        }
        due("all, of the last person", who.brood(5), 63);
    }
}
