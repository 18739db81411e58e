/** The edges of promises 30 and 31 (vote, hanged) and of the terms that they take up. */
final class EdgesVotesTest extends Edges {
    public static void main(String[] args) throws IllegalAccessException {
        runAll(EdgesVotesTest.class);
    }

    private static void votes(FullMoonWho who, int... due) {
        for (int p = 0; p < due.length; p++) {
            due("vote(" + p + ")", who.vote(p), due[p]);
        }
    }

    private static void hangAllBut(FullMoonWho who, int left) {
        for (int p = 0; p < who.count(2); p++) {
            if ((left >> p & 1) == 0) {
                who.hang(p);
            }
        }
    }

    // ---- promise 30

    /** "UNKNOWN". */
    static void p30_unknown() {
        for (int p : not(0, 5)) {
            refused("vote(" + p + ")", who -> who.vote(p), UNKNOWN);
        }
        for (int p : not(0, 0)) {
            due("vote(" + p + ") of one", of("VH00P00").vote(p), UNKNOWN);
        }
    }

    /** "STATE: it is HANGED." */
    static void p30_hanged() {
        refused("hanged", who -> who.vote(5), STATE);
        FullMoonWho who = of(SIX);
        hangAllBut(who, 0);
        votes(who, STATE, STATE, STATE, STATE, STATE, STATE);
        who.undo();
        due("undone: there, but alone", who.vote(5), NONE);
    }

    /** "NONE: nobody.": nobody else is there. */
    static void p30_nobodyElse() {
        due("one person", of("VH00P00").vote(0), NONE);
        due("one wolf", of("VH00P01").vote(0), NONE);
        for (int p = 0; p < 6; p++) {
            FullMoonWho who = of(SIX);
            hangAllBut(who, 1 << p);
            due("the last one that is there", who.vote(p), NONE);
        }
    }

    /** "a WOLF for none that is a WOLF (if there is no such one, for nobody)". */
    static void p30_onlyWolves() {
        votes(of("VH00P01P01P01P01P01P01"), NONE, NONE, NONE, NONE, NONE, NONE);
        FullMoonWho who = of("VH00P01P01P01P01P01P00");
        votes(who, 5, 5, 5, 5, 5, 0);
        who.hang(5);
        votes(who, NONE, NONE, NONE, NONE, NONE, STATE);
    }

    /** "a WOLF for none that is a WOLF": one that is BITTEN in this NIGHT is none yet. */
    static void p30_bittenOnes() {
        FullMoonWho who = of(PAIR);
        who.visit(0, 1);
        votes(who, 1, 0);
        who.dawn();
        votes(who, NONE, NONE);
    }

    /** "of like ones the least": of six alike; the first one votes for the second. */
    static void p30_theLeast() {
        FullMoonWho who = of(SIX);
        votes(who, 1, 0, 0, 0, 0, 0);
        who.hang(0);
        votes(who, STATE, 2, 1, 1, 1, 1);
        hangAllBut(who, 48);
        votes(who, STATE, STATE, STATE, STATE, 5, 4);
    }

    /** "(also where there is no SET)". */
    static void p30_noSet() {
        FullMoonWho who = of("VH00P00P01P00P01");
        who.spoon(3, true);
        who.spoon(3, false);
        due("no set", who.sets(), 0);
        votes(who, 1, 0, 0, 0);
        who.hang(0);
        due("no set still", who.sets(), 0);
        votes(who, STATE, 2, 1, 2);
    }

    /** "which is of most SETS": the last one, by one set more; nobody for itself. */
    static void p30_mostSets() {
        FullMoonWho who = of(SIX);
        who.spoon(5, false);
        votes(who, 5, 5, 5, 5, 5, 0);
        who.spoon(0, true);
        due("the next best", who.vote(5), 1);
    }

    /** "(Nobody is HANGED by asking.)" */
    static void p30_askingChangesNothing() {
        changesNothing("vote(0)", Edges::some, who -> who.vote(0), 2);
        changesNothing("vote of a wolf", () -> of(ALL), who -> who.vote(0), 1);
    }

    // ---- promise 31

    /** "NONE: there are no votes.": nobody; one alone; all HANGED; only wolves. */
    static void p31_noVotes() {
        due("new", new FullMoonWho().hanged(), NONE);
        due("nobody", of("VH00").hanged(), NONE);
        due("one alone", of("VH00P00").hanged(), NONE);
        due("only wolves", of("VH00P01P01P01P01P01P01").hanged(), NONE);
        FullMoonWho who = of(SIX);
        hangAllBut(who, 0);
        due("all are hanged", who.hanged(), NONE);
        who.undo();
        due("but one", who.hanged(), NONE);
    }

    /** "Who has most votes is hanged": five of six votes, for the first and for the last one. */
    static void p31_mostVotes() {
        due("the first one", of(SIX).hanged(), 0);
        FullMoonWho who = of(SIX);
        who.spoon(5, false);
        due("the last one", who.hanged(), 5);
        due("the only one that is no wolf", of("VH00P01P01P01P01P01P00").hanged(), 5);
    }

    /** "each that is there votes": the first and the last person, too; by their vote alone there is a most. */
    static void p31_everyVoteCounts() {
        FullMoonWho first = of("VH00P01P01P00P01P00P00");
        hangAllBut(first, 0b110101);
        first.spoon(4, false);
        // 0 (a wolf), 2, 5 vote for 4, and 4 for 0.
        due("for 4", first.hanged(), 4);
        FullMoonWho tie = of("VH00P01P00P00P00");
        hangAllBut(tie, 0b0111);
        tie.spoon(2, false);
        tie.spoon(1, true);
        votes(tie, 2, 2, 0);
        due("two of three", tie.hanged(), 2);
        tie.hang(1);
        votes(tie, 2, STATE, 0);
        due("one each", tie.hanged(), 0);
        FullMoonWho voter = of("VH00P01P01P01P00P00P00");
        hangAllBut(voter, 0b011001);
        voter.spoon(4, false);
        voter.spoon(0, false);
        // 0 can't but vote for 4 or 3, 3 votes for 0, 4 for 0.
        votes(voter, 4, STATE, STATE, 0, 0, STATE);
        due("two for 0", voter.hanged(), 0);
        FullMoonWho decides = of("VH00P00P01P01P00");
        decides.spoon(3, false);
        decides.spoon(1, false);
        // 0 votes for 1, the wolves 1 and 2 for 3, 3 for 1: by that of 0 there are two and two.
        votes(decides, 1, 3, 3, 1);
        due("by the first one's vote", decides.hanged(), 1);
    }

    /** "of like ones the least": one vote each; two and two. */
    static void p31_likeVotes() {
        due("of two", of("VH00P00P00").hanged(), 0);
        FullMoonWho last = of(SIX);
        hangAllBut(last, 48);
        due("of the last two", last.hanged(), 4);
        due("two and two", of("VH00P01P00P01P00").hanged(), 0);
    }

    /** "Who has most votes is hanged": one vote is enough. */
    static void p31_oneVote() {
        FullMoonWho who = of("VH00P01P01P00");
        who.hang(0);
        due("one for each: the least", who.hanged(), 1);
        votes(who, STATE, 2, 1);
    }

    /** "(also where there is no SET)". */
    static void p31_noSet() {
        FullMoonWho who = of(SIX);
        who.spoon(5, true);
        who.spoon(5, false);
        due("no set", who.hanged(), 0);
        who.hang(0);
        due("no set, of those that are there", who.hanged(), 1);
    }

    /** "(Nobody is HANGED by asking.)" */
    static void p31_askingChangesNothing() {
        changesNothing("hanged()", () -> of(SIX), FullMoonWho::hanged, 0);
        // 0 and 2 are of all sets there; the wolves 0 and 4 vote for 2, the three others for 0.
        changesNothing("hanged()", Edges::some, FullMoonWho::hanged, 0);
    }
}
