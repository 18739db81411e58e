/** The edges that the document names for all promises at once: its first part, the public face, REFUSALS, FRACTIONS. */
final class EdgesTermsTest extends Edges {
    public static void main(String[] args) throws IllegalAccessException {
        runAll(EdgesTermsTest.class);
    }

    /** "An object is used for at most 512 calls after it has been made": the last of them is answered as the first. */
    static void terms_call512() {
        FullMoonWho who = new FullMoonWho();
        for (int i = 1; i <= 511; i++) {
            who.dawn();
        }
        due("512th call, count(3)", who.count(3), 511);
        FullMoonWho seen = new FullMoonWho();
        for (int i = 1; i <= 511; i++) {
            seen.seed(i);
        }
        due("512th call, seed", seen.seed(0), 511);
    }

    /** "An object is used for at most 512 calls": the same one again and again leaves no rest behind. */
    static void terms_sameCall512Times() {
        FullMoonWho who = some();
        long tales = who.tales();
        int tests = who.tests();
        for (int i = 0; i < 230; i++) {
            who.tales();
            who.tests();
        }
        due("tales", who.tales(), tales);
        due("tests", who.tests(), tests);
        FullMoonWho full = full();
        for (int i = 0; i < 200; i++) {
            full.write(8, i);
            full.spoon(0, true);
        }
        due("bytes", full.count(0), 96);
        due("sights", full.count(8), 6);
    }

    /** "UNKNOWN = -1, OUTSIDE = -2, STATE = -3, FULL = -4, NONE = -9", "NONE is -9". */
    static void terms_constants() {
        due("UNKNOWN", FullMoonWho.UNKNOWN, -1);
        due("OUTSIDE", FullMoonWho.OUTSIDE, -2);
        due("STATE", FullMoonWho.STATE, -3);
        due("FULL", FullMoonWho.FULL, -4);
        due("NONE", FullMoonWho.NONE, -9);
    }

    /** "all are there": at first, of a village with all people that there can be. */
    static void terms_allAreThere() {
        FullMoonWho who = of(ALL);
        due("who is there", who.count(5), 63);
        for (int p = 0; p < 6; p++) {
            due("not hanged " + p, who.person(p, 3), 0);
            due("not out " + p, who.person(p, 4), 0);
            due("not bitten " + p, who.person(p, 2), 0);
        }
    }

    /** "FRACTIONS are told above (upper = true), below (1 and more)": of what can't be, below is 1. */
    static void terms_fractionOfNothing() {
        FullMoonWho who = of(PAIR);
        who.spoon(0, true);
        likely(who, 0, 0, 1);
        who.bolt(1, 1);
        danger(who, 1, 1, 0, 1);
        danger(who, 1, 2, 0, 1);
    }

    /** "FRACTIONS ..": of what is sure, both are 1. */
    static void terms_fractionOfAll() {
        FullMoonWho who = of(PAIR);
        who.spoon(0, false);
        likely(who, 0, 1, 1);
        danger(who, 1, 1, 1, 1);
        danger(who, 0, 2, 1, 1);
    }

    /** "in least terms". */
    static void terms_fractionInLeastTerms() {
        FullMoonWho who = of("VH00H00H00R010R020P01P10P20P00");
        // 27 tales of 28 and 8 of 9 for each; the others' are the same above and below.
        likely(who, 0, 27, 28);
        likely(who, 1, 8, 9);
        // 3 of 6, and 18 of 36.
        danger(who, 1, 1, 1, 2);
        FullMoonWho two = of("VH00H00H00R010R020P01P01P10P20");
        danger(two, 2, 1, 3, 4);
    }

    /** "FRACTIONS ..": with the greatest figures that there are. */
    static void terms_greatestFraction() {
        FullMoonWho who = of("VH00H00H00H00R010R020R030P00P00P00P00P00P00");
        who.track(0, 1, 0);
        who.track(1, 2, 1);
        who.track(2, 3, 2);
        long above = who.likely(5, true);
        long below = who.likely(5, false);
        due("all but once in least terms", who.tales() % below, 0);
        due("a part of all", above > 0 && above < below ? 1 : 0, 1);
        due("the same of each", who.likely(0, true), above);
        long divisor = above;
        for (long rest = below; rest != 0; ) {
            long next = divisor % rest;
            divisor = rest;
            rest = next;
        }
        due("least terms", divisor, 1);
    }

    /** "refusals of them are told likewise": above and below are refused alike. */
    static void terms_fractionsRefusedLikewise() {
        for (boolean upper : new boolean[] {true, false}) {
            refused("likely of nobody", who -> who.likely(6, upper), UNKNOWN);
            refused("danger of nobody", who -> who.danger(6, 1, upper), UNKNOWN);
            refused("danger in no night", who -> who.danger(0, 0, upper), OUTSIDE);
            changesNothing("likely without a tale", () -> {
                FullMoonWho who = some();
                who.spoon(2, true);
                return who;
            }, who -> who.likely(0, upper), STATE);
        }
    }

    /** "What is refused changes nothing.": a row of all refusals together, and nothing can be told from ahead of it. */
    static void terms_refusedChangesNothing() {
        refused("how many of all refusals are another one than is due", who -> {
            long[] unknown = {who.house(4, 0), who.person(6, 0), who.may(6), who.prey(6, 0), who.prey(0, 4),
                who.visit(6, 0), who.visit(0, 4), who.hang(6), who.bolt(4, 0), who.first(6), who.line(6),
                who.brood(6), who.track(0, 4, 0), who.hungry(0, 6, true), who.spoon(6, true), who.likely(6, true),
                who.vote(6), who.danger(6, 1, true), who.keep(2), who.again(2)};
            long[] outside = {who.write(0, 0), who.write(9, 0), who.house(0, 6), who.person(0, 7), who.bolt(0, 3),
                who.judge(0, 0), who.judge(1, 100), who.track(3, 0, 0), who.track(0, 0, 7), who.hungry(3, 0, true),
                who.sure(3), who.danger(0, 3, true), who.years(0), who.years(31), who.count(11)};
            long[] state = {who.village(), who.prey(1, 0), who.visit(1, 0), who.visit(0, 1), who.hang(5),
                who.bolt(0, 0), who.vote(5)};
            return others(unknown, UNKNOWN) + others(outside, OUTSIDE) + others(state, STATE);
        }, 0);
        changesNothing("how many are not FULL", Edges::full, who -> others(new long[] {who.write(1, 0),
            who.track(0, 0, 0), who.hungry(0, 0, true), who.spoon(0, true)}, FULL), 0);
    }

    private static long others(long[] answers, int due) {
        return java.util.Arrays.stream(answers).filter(answer -> answer != due).count();
    }

    /** "of several the first that a call names": UNKNOWN is ahead of OUTSIDE, STATE, FULL in each call. */
    static void terms_unknownFirst() {
        refused("house", who -> who.house(4, 6), UNKNOWN);
        refused("person", who -> who.person(6, 7), UNKNOWN);
        refused("prey, who", who -> who.prey(6, 4), UNKNOWN);
        refused("prey, where, of one that may not go anywhere", who -> who.prey(1, 4), UNKNOWN);
        refused("visit, who", who -> who.visit(6, 4), UNKNOWN);
        refused("visit, where, of one that may not go anywhere", who -> who.visit(1, 4), UNKNOWN);
        refused("bolt", who -> who.bolt(4, 3), UNKNOWN);
        refused("track", who -> who.track(3, 4, 7), UNKNOWN);
        refused("hungry", who -> who.hungry(3, 6, true), UNKNOWN);
        refused("spoon", who -> who.spoon(6, true), UNKNOWN);
        refused("danger", who -> who.danger(6, 3, true), UNKNOWN);
        changesNothing("again, where none was kept", () -> of(PAIR), who -> who.again(2), UNKNOWN);
        changesNothing("likely, where no tale fits", () -> {
            FullMoonWho who = some();
            who.spoon(2, true);
            return who;
        }, who -> who.likely(6, true), UNKNOWN);
    }

    /** "of several the first that a call names": OUTSIDE is ahead of FULL. */
    static void terms_outsideAheadOfFull() {
        changesNothing("write", Edges::full, who -> who.write(9, 0), OUTSIDE);
        changesNothing("track, moon", Edges::full, who -> who.track(3, 0, 0), OUTSIDE);
        changesNothing("track, k", Edges::full, who -> who.track(0, 0, 7), OUTSIDE);
        changesNothing("hungry", Edges::full, who -> who.hungry(3, 0, true), OUTSIDE);
    }
}
