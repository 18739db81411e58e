/** Promises 32 to 36: safe, locked, danger, seed, years. */
final class DangersTest {
    private static final Check check = new Check("DangersTest");
    private static final int UNKNOWN = FullMoonWho.UNKNOWN, OUTSIDE = FullMoonWho.OUTSIDE;
    /** A wolf in the middle of three houses, in each of which there is one that is none. */
    private static final String STAR = "VH00H00H00H00R010R021R030P01P10P20P30";

    public static void main(String[] args) {
        safe();
        locked();
        danger();
        dangerOfWolvesByNumber();
        dangerAsThingsAre();
        seed();
        years();
        yearsAsThingsAre();
        check.end();
    }

    private static void safe() {
        FullMoonWho who = Check.villageOf(STAR);
        check.due("32: all around the wolf", who.safe(), 14);
        who.visit(0, 1);
        check.due("32: out or not, bitten or not", who.safe(), 14);
        who.bolt(2, 1);
        check.due("32: bolted already", who.safe(), 10);
        who.bolt(3, 2);
        check.due("32: barred already", who.safe(), 2);
        who.dawn();
        check.due("32: no one but wolves there; the own house", who.safe(), 0);
        who.bolt(2, 0);
        who.bolt(3, 0);
        check.due("32: the other two", who.safe(), 12);
        who.hang(2);
        check.due("32: nobody is there", who.safe(), 8);
        who.bolt(0, 2);
        check.due("32: no wolf leaves a barred house", who.safe(), 0);
        who.bolt(0, 1);
        check.due("32: but it leaves a bolted one", who.safe(), 8);
        who.hang(0);
        check.due("32: a hanged wolf", who.safe(), 0);
        check.due("32: no wolf", Check.villageOf("VH00H00R010P00P10").safe(), 0);
        check.due("32: sheep and kin do not count", Check.villageOf("VH00H90R010P01P10K01").safe(), 2);
        check.due("32: two wolves", Check.villageOf("VH00H00R010P01P11P10P00").safe(), 3);
        check.due("32: no houses", new FullMoonWho().safe(), 0);
    }

    private static void locked() {
        FullMoonWho who = Check.villageOf(STAR);
        check.due("33: the middle", who.locked(), 1);
        who.bolt(0, 1);
        check.due("33: a bolted house can be left", who.locked(), 1);
        who.bolt(0, 2);
        check.due("33: a barred one is open no more", who.locked(), 0);
        check.due("33: a path, of like ones the least", Check.villageOf("VH00H00R010P00P10").locked(), 1);
        check.due("33: where nobody lives", Check.villageOf("VH00H00R010P10").locked(), 1);
        check.due("33: one house for two ways", Check.villageOf("VH00H00H00R010R020P10P20").locked(), 1);
        check.due("33: three in a ring", Check.villageOf("VH00H00H00R010R120R020P00P10P20").locked(), 3);
        FullMoonWho some = Check.villageOf("VH00H00H00R010R020P10P20");
        some.spoon(0, true);
        check.due("33: just one is suspect", some.locked(), 1);
        some.bolt(0, 1);
        check.due("33: it cannot go anywhere", some.locked(), 0);
        some.spoon(0, false);
        check.due("33: no suspect", some.locked(), 0);
        some.unsee();
        some.bolt(0, 0);
        some.hang(0);
        some.hang(1);
        check.due("33: nobody is there", some.locked(), 0);
        check.due("33: no houses", new FullMoonWho().locked(), 0);
    }

    private static void danger() {
        FullMoonWho who = Check.villageOf(STAR);
        fraction(who, 0, 1, 1, 1);
        fraction(who, 1, 1, 1, 3);
        // Bitten at once, or not by the first bite, but by that of 0 or of who was bitten, that has but one way.
        fraction(who, 1, 2, 5, 9);
        check.due("34: UNKNOWN 4", who.danger(4, 1, true), UNKNOWN);
        check.due("34: UNKNOWN -1", who.danger(-1, 1, true), UNKNOWN);
        check.due("34: UNKNOWN comes first", who.danger(4, 3, true), UNKNOWN);
        check.due("34: OUTSIDE 0", who.danger(1, 0, true), OUTSIDE);
        check.due("34: OUTSIDE 3", who.danger(1, 3, false), OUTSIDE);
        check.due("34: OUTSIDE -1", who.danger(1, -1, false), OUTSIDE);
        FullMoonWho chain = Check.villageOf("VH00H00H00R010R120P01P10P20");
        fraction(chain, 1, 1, 1, 1);
        fraction(chain, 2, 1, 0, 1);
        fraction(chain, 2, 2, 1, 2);
        FullMoonWho sheep = Check.villageOf("VH00H10R010P01P10");
        fraction(sheep, 1, 1, 0, 1);
        fraction(sheep, 1, 2, 1, 1);
        check.due("34: nothing changes", sheep.house(1, 0), 1);
        fraction(Check.villageOf("VH00H00R010P01P10K01"), 1, 2, 0, 1);
        fraction(Check.villageOf("VH00H01R010P01P10"), 1, 2, 0, 1);
        fraction(Check.villageOf("VH00H00R010P00P10"), 1, 2, 0, 1);
    }

    private static void dangerOfWolvesByNumber() {
        // Of three wolves one is eating the sheep, whichever; 4 is bitten if three go to its house.
        FullMoonWho who = Check.villageOf("VH00H10H00R010R020P01P01P01P10P10");
        fraction(who, 3, 1, 1, 2);
        fraction(who, 4, 1, 1, 8);
        // The kin's wolf bites the other one: it matters who comes first.
        FullMoonWho kin = Check.villageOf("VH00H00H00R010R020P01P01P10P10K02");
        fraction(kin, 2, 1, 1, 2);
        fraction(kin, 3, 1, 1, 2);
        FullMoonWho late = Check.villageOf("VH00H00H00R010R020P01P01P10P10K12");
        fraction(late, 2, 1, 1, 2);
        fraction(late, 3, 1, 1, 2);
        FullMoonWho well = Check.villageOf("VH00H00H00R011R021P01P01P10P10");
        fraction(well, 2, 1, 3, 4);
        fraction(well, 3, 1, 1, 4);
    }

    private static void dangerAsThingsAre() {
        FullMoonWho who = Check.villageOf("VH00H10R010P01P10");
        who.visit(0, 1);
        fraction(who, 1, 1, 0, 1);
        fraction(who, 1, 2, 1, 1);
        who.dawn();
        fraction(who, 1, 1, 1, 1);
        who.bolt(0, 2);
        fraction(who, 1, 2, 0, 1);
        who.bolt(0, 0);
        who.visit(0, 1);
        who.hang(1);
        fraction(who, 1, 1, 1, 1);
        who.undo();
        who.undo();
        who.hang(1);
        fraction(who, 1, 2, 0, 1);
        who.undo();
        who.hang(0);
        fraction(who, 1, 2, 0, 1);
        fraction(who, 0, 1, 1, 1);
    }

    private static void fraction(FullMoonWho who, int person, int n, long above, long below) {
        String what = "34: danger of " + person + " in " + n;
        check.due(what + ", above", who.danger(person, n, true), above);
        check.due(what + ", below", who.danger(person, n, false), below);
    }

    private static void seed() {
        FullMoonWho who = new FullMoonWho();
        check.due("35: at first", who.seed(Long.MIN_VALUE), 0);
        check.due("35: what it was", who.seed(-5), Long.MIN_VALUE);
        check.due("35: what it was", who.seed(0), -5);
    }

    private static long next(long x) {
        return x * 6364136223846793005L + 1442695040888963407L;
    }

    private static void years() {
        FullMoonWho who = Check.villageOf(STAR);
        for (int m = -1; m <= 31; m += 32) {
            check.due("36: OUTSIDE " + m, who.years(m), OUTSIDE);
        }
        check.due("36: OUTSIDE 0", who.years(0), OUTSIDE);
        check.due("36: nothing was drawn", who.seed(0), 0);
        for (long start = 0; start < 40; start++) {
            long x = next(start * 1000003 - 20000000);
            int house = 1 + (int) ((x >>> 33) % 3);
            who.seed(start * 1000003 - 20000000);
            check.due("36: one year", who.years(1), 1 | 1 << house);
            check.due("36: one was drawn", who.seed(start), x);
            who.seed(start);
            check.due("36: thirty years", who.years(30), 15);
        }
        FullMoonWho only = Check.villageOf("VH00H00R010P01P10");
        only.seed(9);
        check.due("36: one way", only.years(1), 3);
        check.due("36: one is drawn for one way, too", only.seed(9), next(9));
        check.due("36: two years", only.years(2), 3);
        check.due("36: three were drawn", only.seed(9), next(next(next(9))));
        check.due("36: nothing changes", only.count(4), 1);
        check.due("36: nor the night", only.count(3), 0);
        check.due("36: nor the row of acts", only.count(7), 0);
    }

    private static void yearsAsThingsAre() {
        FullMoonWho who = Check.villageOf("VH00H00R010P01P10P00");
        who.visit(0, 1);
        who.seed(4);
        check.due("36: one that is out goes no more", who.years(1), 3);
        check.due("36: none was drawn", who.seed(4), 4);
        check.due("36: the bitten one bites", who.years(2), 7);
        check.due("36: two were drawn", who.seed(4), next(next(4)));
        who.hang(1);
        check.due("36: a hanged one is not there", who.years(1), 1);
        who.undo();
        who.hang(0);
        check.due("36: who is there", who.years(1), 2);
        who.bolt(0, 1);
        who.bolt(1, 2);
        who.seed(4);
        check.due("36: nobody goes anywhere", who.years(30), 2);
        check.due("36: none was drawn", who.seed(4), 4);
    }
}
