/** The edges of promises 32 to 36 (safe, locked, danger, seed, years) and of the terms that they take up. */
final class EdgesDangersTest extends Edges {
    private static final long TIMES = 6364136223846793005L, AND = 1442695040888963407L;
    /** A wolf in the middle with one that is none in each house around. */
    private static final String STAR = "VH00H00H00H00R010R020R030P01P10P20P30";
    /** Five wolves in one house, each with three ways, one of them to who is none. */
    private static final String FIVE = "VH00H00H00H00R010R020R030P01P01P01P01P01P10";

    public static void main(String[] args) throws IllegalAccessException {
        runAll(EdgesDangersTest.class);
    }

    // ---- promise 32

    /** "the fewest HOUSES that must be BOLTED besides": none; no houses, nobody, no wolf, nobody but wolves. */
    static void p32_none() {
        due("new", new FullMoonWho().safe(), 0);
        due("nobody", of("VH00H00R010").safe(), 0);
        due("no wolf", of(SIX).safe(), 0);
        due("wolves alone", of("VH00H00R010P01P11").safe(), 0);
        due("no path", of("VH00H00P01P10").safe(), 0);
        due("all in the wolf's house", of("VH00H00R010P01P00").safe(), 0);
    }

    /** "the fewest HOUSES ..": all four; three of four. */
    static void p32_all() {
        due("all four", of(ALL).safe(), 15);
        due("three", of(STAR).safe(), 14);
        due("the last one", of("VH00H00H00H00R030P01P30").safe(), 8);
    }

    /** "besides": what is BOLTED or BARRED already isn't told; nor what is behind the wolf's BARRED house. */
    static void p32_besides() {
        FullMoonWho who = of(STAR);
        who.bolt(1, 1);
        who.bolt(3, 2);
        due("the other one", who.safe(), 4);
        who.bolt(2, 1);
        due("none", who.safe(), 0);
        FullMoonWho barred = of(STAR);
        barred.bolt(0, 2);
        due("barred in", barred.safe(), 0);
        barred.bolt(0, 1);
        due("bolted in is not barred in", barred.safe(), 14);
    }

    /** "no WOLF that is there could visit (OUT or not)". */
    static void p32_outOrNot() {
        FullMoonWho who = of(STAR);
        who.visit(0, 1);
        due("out", who.safe(), 14);
        who.hang(0);
        due("not there", who.safe(), 0);
    }

    /** "(one BITTEN in this NIGHT is none yet)": until it is dawn. */
    static void p32_bittenInThisNight() {
        FullMoonWho who = of(PAIR);
        who.visit(0, 1);
        due("bitten", who.safe(), 2);
        who.dawn();
        due("a wolf", who.safe(), 0);
    }

    /** "a HOUSE in which somebody is that is no WOLF": HANGED ones are not; KIN and who is behind SHEEP are. */
    static void p32_somebodyIsThere() {
        FullMoonWho who = of(STAR);
        who.hang(1);
        who.hang(3);
        due("two are hanged", who.safe(), 4);
        who.hang(2);
        due("all are", who.safe(), 0);
        due("kin", of("VH00H00R010P01P10K01").safe(), 2);
        due("sheep", of("VH00H90R010P01P10").safe(), 2);
    }

    /** "SAFE": asking changes nothing. */
    static void p32_askingChangesNothing() {
        changesNothing("safe()", () -> of(ALL), FullMoonWho::safe, 15);
    }

    // ---- promise 33

    /** "the fewest HOUSES that must be BARRED besides": none; no houses, nobody, no path, no SET, no SUSPECT. */
    static void p33_none() {
        due("new", new FullMoonWho().locked(), 0);
        due("nobody", of("VH00H00R010").locked(), 0);
        due("no path", of("VH00H00P00P10").locked(), 0);
        FullMoonWho noSet = of(ALL);
        noSet.spoon(0, true);
        noSet.spoon(0, false);
        due("no set", noSet.locked(), 0);
        FullMoonWho noSuspect = of(SIX);
        for (int p = 0; p < 6; p++) {
            noSuspect.spoon(p, true);
        }
        due("no suspect", noSuspect.locked(), 0);
        FullMoonWho hanged = of(PAIR);
        hanged.hang(0);
        hanged.hang(1);
        due("all are hanged", hanged.locked(), 0);
    }

    /** "the fewest HOUSES ..": three of four where all are next to each other; the least three. */
    static void p33_most() {
        due("three of four", of(ALL).locked(), 7);
        due("two of three", of("VH00H00H00R010R020R120P00P10P20").locked(), 3);
        due("one of two", of(PAIR).locked(), 1);
    }

    /** "the fewest .., as bits; of like ones the least": fewer ones are ahead of a lesser number. */
    static void p33_fewestAheadOfLeast() {
        due("the middle, the last house", of("VH00H00H00H00R030R130R230P00P10P20").locked(), 8);
        due("two over two", of("VH00H00H00H00R010R120R230R030P00P10P20P30").locked(), 5);
        due("the lesser end of a path", of("VH00H00H00H00R230P20P30").locked(), 4);
    }

    /** "(by open HOUSES next to it; one that is BARRED is open no more)", "besides". */
    static void p33_besides() {
        FullMoonWho who = of(STAR);
        due("the middle", who.locked(), 1);
        who.bolt(0, 1);
        due("bolted: who lives there goes out", who.locked(), 1);
        who.bolt(0, 2);
        due("barred", who.locked(), 0);
        FullMoonWho around = of(STAR);
        for (int h = 1; h < 4; h++) {
            around.bolt(h, 1);
        }
        due("the others bolted: they go to the middle", around.locked(), 1);
        around.bolt(0, 1);
        due("all bolted", around.locked(), 0);
    }

    /** "no SUSPECT could go anywhere from its own one": one suspect; who is of no SET doesn't count. */
    static void p33_oneSuspect() {
        FullMoonWho who = of(STAR);
        for (int p = 0; p < 3; p++) {
            who.spoon(p, true);
        }
        due("its own house or the middle", who.locked(), 1);
        who.bolt(0, 1);
        due("the middle is bolted", who.locked(), 0);
        FullMoonWho last = of("VH00H00H00H00R010R130R230P00P20P30");
        last.spoon(0, true);
        last.spoon(1, true);
        due("its own house", last.locked(), 8);
    }

    /** "LOCKED": asking changes nothing. */
    static void p33_askingChangesNothing() {
        changesNothing("locked()", () -> of(ALL), FullMoonWho::locked, 7);
    }

    // ---- promise 34

    /** "UNKNOWN". */
    static void p34_unknown() {
        for (int p : not(0, 5)) {
            refused("danger(" + p + ", 1) above", who -> who.danger(p, 1, true), UNKNOWN);
            refused("danger(" + p + ", 2) below", who -> who.danger(p, 2, false), UNKNOWN);
        }
    }

    /** "n NIGHTS from now on (1 to 2)", "OUTSIDE: n". */
    static void p34_outside() {
        for (int n : not(1, 2)) {
            refused("danger(0, " + n + ") above", who -> who.danger(0, n, true), OUTSIDE);
            refused("danger(5, " + n + ") below", who -> who.danger(5, n, false), OUTSIDE);
        }
    }

    /** "UNKNOWN; OUTSIDE": of both UNKNOWN. */
    static void p34_unknownAheadOfOutside() {
        for (int n : not(1, 2)) {
            due("danger(6, " + n + ")", some().danger(6, n, true), UNKNOWN);
            due("danger(-1, " + n + ")", some().danger(-1, n, false), UNKNOWN);
        }
    }

    /** "the chance that a PERSON is a WOLF then": none; no wolf, no path, a bolt, a wolf that is HANGED. */
    static void p34_none() {
        for (String text : new String[] {"VH00H00R010P00P10", "VH00H00P01P10", "VH00H01R010P01P10",
            "VH02H00R010P01P10", "VH00H00R010P01P10K01", "VH00H90R010P01P10"}) {
            danger(of(text), 1, 1, 0, 1);
            danger(of(text), 1, 2, 0, 1);
        }
        FullMoonWho who = of(PAIR);
        who.hang(0);
        danger(who, 1, 2, 0, 1);
    }

    /** "the chance that a PERSON is a WOLF then": surely; it is one, is BITTEN, can't but be. */
    static void p34_surely() {
        FullMoonWho who = of(PAIR);
        danger(who, 0, 1, 1, 1);
        danger(who, 0, 2, 1, 1);
        danger(who, 1, 1, 1, 1);
        who.visit(0, 1);
        danger(who, 1, 1, 1, 1);
        who.hang(1);
        danger(who, 1, 1, 1, 1);
        who.hang(0);
        danger(who, 0, 2, 1, 1);
    }

    /** "as likely each", "n NIGHTS (1 to 2)": five wolves with three ways, in one and in two nights. */
    static void p34_manyWolvesManyWays() {
        FullMoonWho who = of(FIVE);
        danger(who, 5, 1, 211, 243);
        danger(who, 5, 2, 58_025, 59_049);
    }

    /** "the chance that a PERSON is a WOLF then": of one in the first and in the last house, the first and the last person. */
    static void p34_firstAndLastHouse() {
        for (int home = 0; home < 4; home++) {
            int wolf = home == 1 ? 2 : 1;
            String text = "VH00H00H00H00R010R020R030R120R130R230";
            danger(of(text + "P" + home + "0P" + wolf + "1"), 0, 1, 1, 3);
            danger(of(text + "P" + home + "0P" + wolf + "1"), 0, 2, 5, 9);
            danger(of(text + "P" + wolf + "1P" + home + "0"), 1, 1, 1, 3);
            danger(of(text + "P" + wolf + "1P" + home + "0"), 1, 2, 5, 9);
        }
    }

    /** "(Who is OUT in this NIGHT goes no more.)": all are; in the next night they go. */
    static void p34_outOnesGoNoMore() {
        FullMoonWho who = of(FIVE);
        for (int p = 0; p < 5; p++) {
            danger(who, 5, 1, pow(3, 5 - p) - pow(2, 5 - p), pow(3, 5 - p));
            who.visit(p, 2);
        }
        danger(who, 5, 1, 0, 1);
        danger(who, 5, 2, 211, 243);
    }

    private static long pow(int base, int n) {
        long power = 1;
        for (int i = 0; i < n; i++) {
            power *= base;
        }
        return power;
    }

    /** "visits one of the HOUSES that it MAY (nowhere, if there is none)": who can't go is no hindrance to others. */
    static void p34_nowhere() {
        FullMoonWho who = of("VH00H00H00R010P21P01P10");
        danger(who, 2, 1, 1, 1);
        danger(who, 2, 2, 1, 1);
        who.bolt(1, 1);
        danger(who, 2, 2, 0, 1);
    }

    /** "each WOLF that is there by then": one BITTEN in the first NIGHT goes in the second. */
    static void p34_byThen() {
        FullMoonWho who = of("VH00H00H00R010R120P01P10P20");
        danger(who, 2, 1, 0, 1);
        danger(who, 2, 2, 1, 2);
        who.visit(0, 1);
        who.hang(1);
        danger(who, 2, 2, 0, 1);
    }

    /** "It eats a SHEEP .., if there is one": one sheep fewer each visit, to none. */
    static void p34_sheep() {
        danger(of("VH00H10R010P01P10"), 1, 1, 0, 1);
        danger(of("VH00H10R010P01P10"), 1, 2, 1, 1);
        danger(of("VH00H20R010P01P10"), 1, 2, 0, 1);
        danger(of("VH00H20R010P01P01P10"), 2, 1, 0, 1);
        danger(of("VH00H20R010P01P01P10"), 2, 2, 1, 1);
    }

    /** "DANGER": asking changes nothing, nor THE SEED. */
    static void p34_askingChangesNothing() {
        changesNothing("danger(5, 2)", () -> of(FIVE), who -> who.danger(5, 2, true), 58_025);
        changesNothing("danger(0, 2)", Edges::some, who -> who.danger(0, 2, true), 1);
    }

    // ---- promise 35

    /** "THE SEED, a long; 0 at first". */
    static void p35_atFirst() {
        due("seed", new FullMoonWho().seed(5), 0);
    }

    /** "THE SEED is v: what it was.": the least and the greatest long, and what lies at the ends of an int. */
    static void p35_leastAndGreatest() {
        FullMoonWho who = new FullMoonWho();
        long was = 0;
        for (long v : new long[] {Long.MIN_VALUE, Long.MAX_VALUE, -1, 1, Integer.MAX_VALUE + 1L, Integer.MIN_VALUE - 1L,
            Integer.MIN_VALUE, Integer.MAX_VALUE, 1L << 32, 0}) {
            due("seed(" + v + ")", who.seed(v), was);
            was = v;
        }
    }

    // ---- promise 36

    /** "m NIGHTS (1 to 30)", "OUTSIDE: m.": no number is drawn. */
    static void p36_outside() {
        for (int m : not(1, 30)) {
            refused("years(" + m + ")", who -> who.years(m), OUTSIDE);
            changesNothing("years(" + m + ")", () -> of(FIVE), who -> who.years(m), OUTSIDE);
        }
    }

    /** "m NIGHTS (1 to 30)": the least and the greatest, by how many numbers are drawn. */
    static void p36_oneAndThirty() {
        FullMoonWho who = of("VH00H00R010P01P11");
        due("one", who.years(1), 3);
        due("two were drawn", who.seed(0), drawn(0, 2));
        due("thirty", who.years(30), 3);
        due("sixty were drawn", who.seed(0), drawn(0, 60));
        FullMoonWho line = of("VH00H00R010P01P10P00P10P00P10");
        for (int m = 1; m <= 6; m++) {
            due("as many as nights", line.years(m), new int[] {3, 15, 63, 63, 63, 63}[m - 1]);
        }
    }

    private static long drawn(long seed, int times) {
        long x = seed;
        for (int i = 0; i < times; i++) {
            x = x * TIMES + AND;
        }
        return x;
    }

    /** The seed by which the first number drawn is this one. */
    private static long seedFor(long x) {
        long inverse = TIMES;
        for (int i = 0; i < 6; i++) {
            inverse *= 2 - TIMES * inverse;
        }
        return (x - AND) * inverse;
    }

    /** "(64 bits, wrapping): its upper 31 bits by how many HOUSES": the least and the greatest that can be drawn. */
    static void p36_upper31Bits() {
        long[] drawn = {0, 1, (1L << 33) - 1, 1L << 33, 2L << 33, 3L << 33, Long.MAX_VALUE, Long.MIN_VALUE, -1,
            -1L << 33, -2L << 33, -3L << 33, Integer.MIN_VALUE, Integer.MAX_VALUE};
        for (long x : drawn) {
            long upper = Long.divideUnsigned(x, 1L << 33);
            for (int ways = 1; ways <= 3; ways++) {
                FullMoonWho who = of(STAR);
                for (int h = ways + 1; h < 4; h++) {
                    who.bolt(h, 1);
                }
                who.seed(seedFor(x));
                due("x " + x + " of " + ways, who.years(1), 1 | 2 << upper % ways);
                due("the seed then", who.seed(0), x);
            }
        }
    }

    /** "what is left counts these by number": the houses that it MAY, not all. */
    static void p36_countsTheseByNumber() {
        for (int bolted = 1; bolted < 4; bolted++) {
            FullMoonWho who = of(STAR);
            who.bolt(bolted, 1);
            int first = bolted == 1 ? 2 : 1;
            int second = bolted == 3 ? 2 : 3;
            who.seed(seedFor(0));
            due("the first of two", who.years(1), 1 | 1 << first);
            who.seed(seedFor(1L << 33));
            due("the second of two", who.years(1), 1 | 1 << second);
            who.seed(seedFor(2L << 33));
            due("the first again", who.years(1), 1 | 1 << first);
        }
    }

    /** "(none drawn, if there is none)": nobody, no wolf, no way, OUT, HANGED; one is drawn where there is but one way. */
    static void p36_noneDrawn() {
        for (String text : new String[] {"V", "VH00H00R010P00P10", "VH00H00P01P11", "VH02H00R010P01", "VH00H01R010P01"}) {
            FullMoonWho who = of(text);
            who.seed(12345);
            who.years(30);
            due("none drawn in " + text, who.seed(0), 12345);
        }
        FullMoonWho out = of(PAIR);
        out.visit(0, 1);
        out.seed(3);
        due("out", out.years(1), 3);
        due("none drawn", out.seed(3), 3);
        out.hang(0);
        out.hang(1);
        due("hanged", out.years(30), 0);
        due("none drawn", out.seed(3), 3);
        FullMoonWho one = of("VH00H00R010P01");
        one.years(1);
        due("one way: one drawn", one.seed(0), drawn(0, 1));
    }

    /** "who is a WOLF and there in the end, as bits": nobody, all six, all but HANGED ones. */
    static void p36_whoIsAWolfAndThere() {
        due("new", new FullMoonWho().years(30), 0);
        due("no wolf", of(SIX).years(30), 0);
        due("all", of("VH00P01P01P01P01P01P01").years(1), 63);
        FullMoonWho who = of("VH00P01P01P01P01P01P01");
        who.hang(5);
        due("but there", who.years(30), 31);
        FullMoonWho bitten = of(PAIR);
        bitten.visit(0, 1);
        bitten.hang(1);
        due("bitten and hanged", bitten.years(1), 1);
    }

    /** "(Nothing changes but THE SEED.)" */
    static void p36_nothingChangesButTheSeed() {
        changesNothing("years(30)", () -> of("VH00H00R010P01P10P00P10P00P10"), who -> {
            int wolves = who.years(30);
            who.seed(0);
            return wolves;
        }, 63);
        changesNothing("years(30)", Edges::some, who -> {
            who.years(30);
            return who.seed(77) == 77 ? 1 : 0;
        }, 0);
    }
}
