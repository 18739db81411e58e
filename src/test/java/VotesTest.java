/** Promises 30 and 31: vote, hanged. */
final class VotesTest {
    private static final Check check = new Check("VotesTest");
    private static final int UNKNOWN = FullMoonWho.UNKNOWN, STATE = FullMoonWho.STATE, NONE = FullMoonWho.NONE;

    public static void main(String[] args) {
        leastOfLikeOnes();
        wolves();
        mostSets();
        hangedAskedFirst();
        noVotes();
        check.end();
    }

    private static void votes(FullMoonWho who, int... due) {
        for (int p = 0; p < due.length; p++) {
            check.due("30: vote(" + p + ")", who.vote(p), due[p]);
        }
    }

    private static void leastOfLikeOnes() {
        FullMoonWho who = Check.villageOf("VH00H00R010P00P00P00P00");
        votes(who, 1, 0, 0, 0);
        check.due("31: most votes", who.hanged(), 0);
        check.due("31: nobody is hanged by asking", who.count(5), 15);
        check.due("31: no act", who.count(7), 0);
        check.due("30: UNKNOWN 4", who.vote(4), UNKNOWN);
        check.due("30: UNKNOWN -1", who.vote(-1), UNKNOWN);
        who.hang(0);
        votes(who, STATE, 2, 1, 1);
        check.due("31: of those that are there", who.hanged(), 1);
        who.spoon(1, true);
        who.spoon(1, false);
        votes(who, STATE, 2, 1, 1);
        check.due("31: where there is no set", who.hanged(), 1);
    }

    private static void wolves() {
        FullMoonWho who = Check.villageOf("VH00H00R010P01P01P00P00");
        votes(who, 2, 2, 0, 0);
        check.due("31: of like ones the least", who.hanged(), 0);
        who.hang(3);
        votes(who, 2, 2, 0, STATE);
        check.due("31: two of three", who.hanged(), 2);
        FullMoonWho bitten = Check.villageOf("VH00H00R010P01P10");
        bitten.visit(0, 1);
        votes(bitten, 1, 0);
        bitten.dawn();
        votes(bitten, NONE, NONE);
        check.due("31: only wolves", bitten.hanged(), NONE);
    }

    private static void mostSets() {
        FullMoonWho who = Check.villageOf("VH00H00R010P00P00P01P00");
        who.spoon(0, true);
        votes(who, 1, 2, 1, 1);
        check.due("31: three votes", who.hanged(), 1);
        who.spoon(3, false);
        votes(who, 3, 3, 3, 1);
        check.due("31: the surest", who.hanged(), 3);
        FullMoonWho wolf = Check.villageOf("VH00H00R010P01P00P01");
        wolf.spoon(2, false);
        votes(wolf, 1, 2, 1);
        check.due("31: a wolf for no wolf", wolf.hanged(), 1);
    }

    private static void hangedAskedFirst() {
        FullMoonWho who = Check.villageOf("VH00H00R010P00P00P00");
        who.spoon(2, false);
        check.due("31: by the sights as they are", who.hanged(), 2);
        who.unsee();
        check.due("31: without sights", who.hanged(), 0);
        FullMoonWho one = Check.villageOf("VH00P01P01P00");
        one.hang(2);
        one.hang(1);
        check.due("31: a wolf alone", one.hanged(), NONE);
        one.undo();
        one.undo();
        one.hang(0);
        check.due("31: one vote for each", one.hanged(), 1);
    }

    private static void noVotes() {
        check.due("31: nobody", new FullMoonWho().hanged(), NONE);
        FullMoonWho who = Check.villageOf("VH00P00");
        votes(who, NONE);
        check.due("31: one alone", who.hanged(), NONE);
        who.hang(0);
        votes(who, STATE);
        check.due("31: all are hanged", who.hanged(), NONE);
    }
}
