/** The edges of promises 10 to 15 (visit, dawn, hang, bolt, undo, judge) and of the terms that they take up. */
final class EdgesActsTest extends Edges {
    private static final String SIX_WOLVES = "VH00H00R010P01P01P01P01P01P01";

    public static void main(String[] args) throws IllegalAccessException {
        runAll(EdgesActsTest.class);
    }

    // ---- promise 10

    /** "UNKNOWN: person, house". */
    static void p10_unknown() {
        for (int p : not(0, 5)) {
            refused("visit(" + p + ", 1)", who -> who.visit(p, 1), UNKNOWN);
            changesNothing("visit(" + p + ", 1)", () -> of(ALL), who -> who.visit(p, 1), UNKNOWN);
        }
        for (int h : not(0, 3)) {
            refused("visit(0, " + h + ")", who -> who.visit(0, h), UNKNOWN);
            changesNothing("visit(0, " + h + ") of one that may", () -> of(ALL), who -> who.visit(0, h), UNKNOWN);
        }
    }

    /** "UNKNOWN: person, house; STATE": of both UNKNOWN. */
    static void p10_unknownAheadOfState() {
        for (int h : not(0, 3)) {
            due("no wolf", some().visit(1, h), UNKNOWN);
            due("out", some().visit(0, h), UNKNOWN);
            due("hanged", some().visit(5, h), UNKNOWN);
            due("nobody", some().visit(6, h), UNKNOWN);
        }
    }

    /** "STATE: it MAY not.": each reason why it may not. */
    static void p10_mayNot() {
        String text = "VH00H00H01H02R010R020R030R120P01P10P11P31";
        changesNothing("own house", () -> of(text), who -> who.visit(0, 0), STATE);
        changesNothing("no wolf", () -> of(text), who -> who.visit(1, 0), STATE);
        changesNothing("bolted", () -> of(text), who -> who.visit(0, 2), STATE);
        changesNothing("barred", () -> of(text), who -> who.visit(0, 3), STATE);
        changesNothing("no path", () -> of(text), who -> who.visit(2, 3), STATE);
        changesNothing("out of a barred house", () -> of(text), who -> who.visit(3, 0), STATE);
        refused("out", who -> who.visit(0, 1), STATE);
        refused("bitten in this night", who -> who.visit(3, 2), STATE);
        refused("hanged", who -> who.visit(5, 1), STATE);
        changesNothing("a hanged wolf", () -> {
            FullMoonWho who = of(PAIR);
            who.hang(0);
            return who;
        }, who -> who.visit(0, 1), STATE);
    }

    /** "It eats a SHEEP of that HOUSE, if there is one; else it BITES": of 9 sheep all, then it bites. */
    static void p10_fromTheMostSheepToNone() {
        FullMoonWho who = of("VH00H90R010P01P10");
        for (int sheep = 8; sheep >= 0; sheep--) {
            due("a sheep", who.visit(0, 1), NONE);
            due("sheep left", who.house(1, 0), sheep);
            due("nobody is bitten", who.person(1, 2), 0);
            who.dawn();
        }
        due("none is left", who.visit(0, 1), 1);
        due("none still", who.house(1, 0), 0);
        due("bitten", who.person(1, 2), 1);
    }

    /** "else nothing more": it is OUT and leaves a TRACK, though nobody is there to be bitten. */
    static void p10_nobodyToBite() {
        for (String text : new String[] {"VH00H00R010P01", "VH00H00R010P01P11", "VH00H00R010P01P10K01"}) {
            FullMoonWho who = of(text);
            due("nobody", who.visit(0, 1), NONE);
            due("out", who.person(0, 4), 1);
            due("a track", who.house(1, 2), 1);
            due("an act", who.count(7), 1);
            due("no new wolf", who.dawn(), 0);
        }
    }

    /** "no WOLF, not BITTEN so far": as many bites as people, then none. */
    static void p10_allAreBitten() {
        FullMoonWho who = of("VH00H00R010P01P01P01P10P10P01");
        due("the least", who.visit(5, 1), 3);
        due("the next one", who.visit(0, 1), 4);
        due("all are bitten", who.visit(1, 1), NONE);
        due("all are bitten", who.visit(2, 1), NONE);
        due("bitten by the first one", who.person(3, 5), 5);
        due("four tracks", who.house(1, 2), 4);
    }

    /** "was not OUT in this NIGHT": six visits in a night are the most. */
    static void p10_everyoneOnce() {
        FullMoonWho who = of(SIX_WOLVES);
        for (int p = 0; p < 6; p++) {
            due("first time", who.visit(p, 1), NONE);
        }
        for (int p = 0; p < 6; p++) {
            due("second time", who.visit(p, 1), STATE);
        }
        due("acts", who.count(7), 6);
        who.dawn();
        due("by the next night", who.visit(5, 1), NONE);
    }

    /** "ACTS .. are a row (16 at most; of more the first one is forgotten)": a visit into a full row. */
    static void p10_visitIntoAFullRow() {
        FullMoonWho who = of(PAIR);
        for (int i = 0; i < 16; i++) {
            who.dawn();
        }
        due("visit", who.visit(0, 1), 1);
        due("acts", who.count(7), 16);
        due("undo", who.undo(), 15);
        due("not bitten", who.person(1, 2), 0);
    }

    // ---- promise 11

    /** "who is a WOLF then that was not, as bits": nobody. */
    static void p11_nobody() {
        due("new object", new FullMoonWho().dawn(), 0);
        due("nobody was bitten", of(PAIR).dawn(), 0);
        due("all are wolves", of(SIX_WOLVES).dawn(), 0);
    }

    /** "who is a WOLF then that was not, as bits": the last person; as many as can be, three by three. */
    static void p11_most() {
        FullMoonWho who = of("VH00H00R010P01P01P01P10P10P10");
        for (int p = 0; p < 3; p++) {
            who.visit(p, 1);
        }
        due("three new", who.dawn(), 56);
        due("all are wolves", who.count(4), 63);
        due("none new", who.dawn(), 0);
        FullMoonWho last = of("VH00H00R010P01P01P01P01P01P10");
        last.visit(4, 1);
        due("the last one", last.dawn(), 32);
    }

    /** "all that are BITTEN (HANGED ones, too) are WOLVES". */
    static void p11_hangedOnesToo() {
        FullMoonWho who = of(PAIR);
        who.visit(0, 1);
        who.hang(1);
        due("hanged and new", who.dawn(), 2);
        due("a wolf", who.person(1, 1), 1);
        due("but not there", who.count(4), 1);
    }

    /** "DAWN: THE NIGHT is one more": again and again, more often than acts are kept. */
    static void p11_manyNights() {
        FullMoonWho who = of(PAIR);
        for (int night = 1; night <= 100; night++) {
            who.dawn();
            due("night", who.count(3), night);
        }
        due("acts", who.count(7), 16);
    }

    /** "nobody is OUT, there are no TRACKS": though all were, and all houses had some. */
    static void p11_nobodyIsOutNoTracks() {
        FullMoonWho who = of("VH00H00H00H00R010R120R230R030P01P11P21P31P01P11");
        int[] to = {1, 2, 3, 0, 3, 0};
        for (int p = 0; p < 6; p++) {
            who.visit(p, to[p]);
        }
        due("tracks of 0", who.house(0, 2), 2);
        due("tracks of 3", who.house(3, 2), 2);
        who.dawn();
        for (int p = 0; p < 6; p++) {
            due("not out", who.person(p, 4), 0);
        }
        for (int h = 0; h < 4; h++) {
            due("no tracks", who.house(h, 2), 0);
        }
    }

    /** "DAWN": SHEEP don't come back, BOLTS stay, HANGED ones stay so. */
    static void p11_whatStays() {
        FullMoonWho who = of("VH00H10R010P01P10P10");
        who.visit(0, 1);
        who.bolt(1, 2);
        who.hang(2);
        who.dawn();
        due("no sheep", who.count(6), 0);
        due("barred", who.house(1, 1), 2);
        due("who is there", who.count(5), 3);
    }

    // ---- promise 12

    /** "UNKNOWN". */
    static void p12_unknown() {
        for (int p : not(0, 5)) {
            refused("hang(" + p + ")", who -> who.hang(p), UNKNOWN);
        }
        for (int p : not(0, 0)) {
            changesNothing("hang(" + p + ") of one", () -> of("VH00P01"), who -> who.hang(p), UNKNOWN);
        }
    }

    /** "STATE: it is HANGED." */
    static void p12_hangedAlready() {
        refused("hanged", who -> who.hang(5), STATE);
        FullMoonWho who = of(PAIR);
        who.hang(0);
        who.dawn();
        due("by the next night", who.hang(0), STATE);
        who.undo();
        who.undo();
        due("undone", who.hang(0), 1);
    }

    /** "1 if it was a WOLF, 0.": one that is BITTEN in this NIGHT is none yet. */
    static void p12_wolfOrNot() {
        FullMoonWho who = of(PAIR);
        who.visit(0, 1);
        due("bitten", who.hang(1), 0);
        who.undo();
        who.dawn();
        due("a wolf by now", who.hang(1), 1);
        due("a wolf from the first", who.hang(0), 1);
    }

    /** "HANGED: one is there no more": all six are hanged. */
    static void p12_allAreHanged() {
        FullMoonWho who = of(ALL);
        for (int p = 0; p < 6; p++) {
            due("hang", who.hang(p), p == 0 || p == 3 ? 1 : 0);
        }
        due("nobody is there", who.count(5), 0);
        due("no wolf", who.count(4), 0);
        for (int p = 0; p < 6; p++) {
            due("again", who.hang(p), STATE);
            due("may", who.may(p), 0);
        }
        due("dawn", who.dawn(), 0);
        due("people", who.count(2), 6);
    }

    /** "one is there no more (by day or night)": it is not bitten, it doesn't visit, nobody votes for it. */
    static void p12_byDayOrNight() {
        FullMoonWho who = of("VH00H00R010P01P10P10");
        who.hang(1);
        due("the next one is bitten", who.visit(0, 1), 2);
        due("it is not voted for", who.vote(0), 2);
        due("it doesn't vote", who.vote(1), STATE);
        who.dawn();
        who.hang(2);
        due("it doesn't visit", who.visit(2, 0), STATE);
    }

    // ---- promise 13

    /** "UNKNOWN". */
    static void p13_unknown() {
        for (int h : not(0, 3)) {
            for (int b = 0; b <= 2; b++) {
                int bolt = b;
                refused("bolt(" + h + ", " + b + ")", who -> who.bolt(h, bolt), UNKNOWN);
            }
        }
        for (int h : not(0, 0)) {
            changesNothing("bolt(" + h + ", 1) of one", () -> of("VH00"), who -> who.bolt(h, 1), UNKNOWN);
        }
    }

    /** "OUTSIDE: bolt (0 to 2)". */
    static void p13_outside() {
        for (int b : not(0, 2)) {
            for (int h = 0; h < 4; h++) {
                int house = h;
                refused("bolt(" + h + ", " + b + ")", who -> who.bolt(house, b), OUTSIDE);
            }
        }
    }

    /** "UNKNOWN; OUTSIDE": of both UNKNOWN. */
    static void p13_unknownAheadOfOutside() {
        for (int b : not(0, 2)) {
            due("bolt(4, " + b + ")", some().bolt(4, b), UNKNOWN);
            due("bolt(-1, " + b + ")", some().bolt(-1, b), UNKNOWN);
        }
    }

    /** "STATE: it is so.": of each of the three, told by the village or set. */
    static void p13_itIsSo() {
        for (int b = 0; b <= 2; b++) {
            int bolt = b;
            changesNothing("told " + b, () -> of("VH0" + bolt), who -> who.bolt(0, bolt), STATE);
            changesNothing("set " + b, () -> {
                FullMoonWho who = of("VH0" + (bolt + 1) % 3);
                who.bolt(0, bolt);
                return who;
            }, who -> who.bolt(0, bolt), STATE);
        }
        refused("house 3 of some of everything", who -> who.bolt(3, 2), STATE);
    }

    /** "A BOLT is set: what it was.": from each to each other one, in the first and the last house, no other one. */
    static void p13_fromEachToEach() {
        for (int h = 0; h < 4; h += 3) {
            for (int from = 0; from <= 2; from++) {
                for (int to = 0; to <= 2; to++) {
                    FullMoonWho who = of("VH0" + from + "H01H02H0" + from);
                    due(from + " to " + to, who.bolt(h, to), from == to ? STATE : from);
                    due("is " + to, who.house(h, 1), to);
                    due("the other one is as it was", who.house(3 - h, 1), from);
                    due("bolted still", who.house(1, 1), 1);
                    due("barred still", who.house(2, 1), 2);
                    due("acts", who.count(7), from == to ? 0 : 1);
                }
            }
        }
    }

    // ---- promise 14

    /** "STATE: there is none.": in a new object, behind village, again, and the last undo. */
    static void p14_none() {
        changesNothing("new", FullMoonWho::new, FullMoonWho::undo, STATE);
        changesNothing("village", () -> of(ALL), FullMoonWho::undo, STATE);
        changesNothing("again", () -> {
            FullMoonWho who = some();
            who.again(0);
            return who;
        }, FullMoonWho::undo, STATE);
        changesNothing("the last one", () -> {
            FullMoonWho who = of(PAIR);
            who.visit(0, 1);
            who.undo();
            return who;
        }, FullMoonWho::undo, STATE);
    }

    /** "how many are left": from one to 16. */
    static void p14_howManyAreLeft() {
        for (int acts = 1; acts <= 16; acts++) {
            FullMoonWho who = of(PAIR);
            for (int i = 0; i < acts; i++) {
                who.dawn();
            }
            for (int left = acts - 1; left >= 0; left--) {
                due("left of " + acts, who.undo(), left);
                due("night", who.count(3), left);
            }
            due("none", who.undo(), STATE);
        }
    }

    /** "(16 at most; of more the first one is forgotten)": of 17 the first one can't be undone. */
    static void p14_theFirstIsForgotten() {
        FullMoonWho who = of(PAIR);
        who.hang(1);
        for (int i = 0; i < 15; i++) {
            who.dawn();
        }
        due("16", who.count(7), 16);
        who.bolt(0, 1);
        due("16 still", who.count(7), 16);
        for (int left = 15; left >= 0; left--) {
            due("left", who.undo(), left);
        }
        due("none", who.undo(), STATE);
        due("the hanging stays", who.person(1, 3), 1);
        due("night", who.count(3), 0);
        FullMoonWho just = of(PAIR);
        just.hang(1);
        for (int i = 0; i < 15; i++) {
            just.dawn();
        }
        for (int i = 0; i < 16; i++) {
            just.undo();
        }
        due("of 16 it can be undone", just.person(1, 3), 0);
    }

    /** "of more the first one is forgotten": the oldest gives way again and again, also where some were undone between. */
    static void p14_theRowGoesRound() {
        for (int more = 0; more <= 40; more++) {
            FullMoonWho who = new FullMoonWho();
            for (int i = 0; i < 16 + more; i++) {
                who.dawn();
            }
            who.undo();
            who.undo();
            who.undo();
            for (int i = 0; i < 5; i++) {
                who.dawn();
            }
            due("acts", who.count(7), 16);
            for (int left = 15; left >= 0; left--) {
                due("left", who.undo(), left);
                due("night", who.count(3), 2 + more + left);
            }
            due("none", who.undo(), STATE);
        }
    }

    /** "the last one can be undone": an act of each kind is undone with all that it did. */
    static void p14_eachKind() {
        String[] kinds = {"visit: a sheep", "visit: a bite", "visit: nothing", "dawn", "hang", "bolt"};
        for (int kind = 0; kind < kinds.length; kind++) {
            FullMoonWho acted = forActs();
            act(acted, kind);
            due(kinds[kind] + " is an act", acted.count(7), 3);
            due(kinds[kind] + " undone", acted.undo(), 2);
            due(kinds[kind] + " all is as it was", Look.of(acted).equals(Look.of(forActs())) ? 1 : 0, 1);
        }
    }

    private static FullMoonWho forActs() {
        FullMoonWho who = of("VH00H10H00H00R010R020R030P01P01P20P00P01");
        who.dawn();
        who.visit(4, 2);
        return who;
    }

    private static void act(FullMoonWho who, int kind) {
        switch (kind) {
            case 0 -> who.visit(0, 1);
            case 1 -> who.visit(1, 2);
            case 2 -> who.visit(1, 3);
            case 3 -> who.dawn();
            case 4 -> who.hang(1);
            default -> who.bolt(1, 2);
        }
    }

    /** "ACTS (VISITS, DAWNS, HANGINGS, BOLTS)": nothing else is one, nor is what is refused. */
    static void p14_noOtherActs() {
        FullMoonWho who = of(ALL);
        who.dawn();
        who.track(0, 0, 0);
        who.hungry(0, 0, true);
        who.spoon(0, true);
        who.unsee();
        who.seed(8);
        who.years(30);
        who.keep(0);
        who.judge(1, 1);
        who.hanged();
        who.visit(1, 1);
        who.hang(6);
        who.bolt(0, 0);
        who.write(1, 'V');
        who.wipe();
        due("one act", who.count(7), 1);
        due("undo", who.undo(), 0);
        due("the seed is not set back", who.seed(0) == 8 ? 1 : 0, 0);
    }

    // ---- promise 15

    /** "n VISITS .. (1 to 4)", "OUTSIDE: n". */
    static void p15_outsideN() {
        for (int n : not(1, 4)) {
            refused("judge(" + n + ", 1)", who -> who.judge(n, 1), OUTSIDE);
        }
        for (int n : new int[] {0, 5}) {
            for (int row : new int[] {-1, Integer.MIN_VALUE, Integer.MAX_VALUE}) {
                due("judge(" + n + ", " + row + ")", of(ALL).judge(n, row), OUTSIDE);
            }
        }
    }

    /** "OUTSIDE: .. row (0 or more ..)". */
    static void p15_rowBelowNone() {
        for (int n = 1; n <= 4; n++) {
            int visits = n;
            for (int row : new int[] {-1, -2, -100, Integer.MIN_VALUE, Integer.MIN_VALUE + 1}) {
                refused("judge(" + n + ", " + row + ")", who -> who.judge(visits, row), OUTSIDE);
            }
            due("judge(" + n + ", 0): its own house", of(ALL).judge(n, 0), 0);
        }
    }

    /** "row (.. 2 n figures at most)": the greatest that can be told, and one more; the greatest int. */
    static void p15_rowOfTooManyFigures() {
        int[] least = {100, 10_000, 1_000_000, 100_000_000};
        for (int n = 1; n <= 4; n++) {
            int visits = n;
            int tooMuch = least[n - 1];
            due("judge(" + n + ", " + (tooMuch - 1) + "): nobody", of(ALL).judge(n, tooMuch - 1), 0);
            due("judge(" + n + ", " + (tooMuch - 1) + "): nobody", new FullMoonWho().judge(n, tooMuch - 1), 0);
            refused("judge(" + n + ", " + tooMuch + ")", who -> who.judge(visits, tooMuch), OUTSIDE);
            refused("judge(" + n + ", the greatest)", who -> who.judge(visits, Integer.MAX_VALUE), OUTSIDE);
        }
    }

    /** "told as 2 n figures (who, where, who, ..)": what is 0 at the front counts. */
    static void p15_zerosAtTheFront() {
        FullMoonWho who = of(SIX_WOLVES);
        due("0 to 1", who.judge(1, 1), NONE);
        due("0 to 1, 1 to 1", who.judge(2, 111), NONE);
        due("0 to 0, 0 to 1", who.judge(2, 1), 0);
        due("0 to 1, 1 to 1, 2 to 1, 3 to 1", who.judge(4, 1112131), NONE);
        due("0 to 0, 1 to 1, 2 to 1, 3 to 1", who.judge(4, 112131), 0);
    }

    /** "the place (from 0) of the first that may not be": each place from 0 to 3; of two the first. */
    static void p15_eachPlace() {
        FullMoonWho who = of(SIX_WOLVES);
        due("place 0", who.judge(4, 112131), 0);
        due("place 1", who.judge(4, 1012131), 1);
        due("place 2", who.judge(4, 1110131), 2);
        due("place 3", who.judge(4, 1112101), 3);
        due("places 1 and 3", who.judge(4, 1012101), 1);
        due("all four", who.judge(4, 0), 0);
        due("of one", who.judge(1, 0), 0);
        due("the last of two", who.judge(2, 101), 1);
        due("the last of three", who.judge(3, 11101), 2);
    }

    /** "the first that may not be": of somebody, or to a house, that there is not. */
    static void p15_nobodyAndNoHouse() {
        FullMoonWho who = of(SIX_WOLVES);
        for (int p = 6; p <= 9; p++) {
            due("nobody " + p, who.judge(2, 100 + 10 * p + 1), 1);
        }
        for (int h = 2; h <= 9; h++) {
            due("no house " + h, who.judge(2, 110 + h), 1);
        }
        due("new object", new FullMoonWho().judge(4, 0), 0);
    }

    /** "VISITS of this NIGHT from now on": who is OUT by then, or goes twice, may not; one BITTEN by one told goes no more. */
    static void p15_ofThisNight() {
        FullMoonWho who = of("VH00H00R010P01P10P01P11");
        due("twice", who.judge(2, 101), 1);
        due("twice, another one between", who.judge(3, 12101), 2);
        due("bitten", who.judge(2, 110), 1);
        who.visit(0, 1);
        due("out", who.judge(1, 1), 0);
        due("another one is not", who.judge(1, 21), NONE);
        who.dawn();
        due("by the next night", who.judge(2, 110), NONE);
        who.hang(0);
        due("hanged", who.judge(2, 1001), 1);
        who.bolt(0, 1);
        due("bolted", who.judge(2, 2110), 1);
    }

    /** "told nights judged": nothing changes by it, whatever is told. */
    static void p15_nothingChanges() {
        changesNothing("all four may", () -> of(SIX_WOLVES), who -> who.judge(4, 1112131), NONE);
        changesNothing("a bite", () -> of(PAIR), who -> who.judge(1, 1), NONE);
        changesNothing("a sheep", () -> of("VH00H10R010P01P10P01"), who -> who.judge(2, 121), NONE);
    }
}
