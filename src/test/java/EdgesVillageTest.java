/** The edges of promises 6 to 9 (house, person, may, prey) and of the terms that they take up. */
final class EdgesVillageTest extends Edges {
    /** A wolf in the middle with one that is none in each house around; the paths to 2 and 3 are by a well. */
    private static final String STAR = "VH00H00H00H00R010R021R031P01P10P20P30";

    public static void main(String[] args) throws IllegalAccessException {
        runAll(EdgesVillageTest.class);
    }

    // ---- promise 6

    /** "UNKNOWN (there is no such HOUSE ..)": below 0, above the last one, and what wraps to one that is there. */
    static void p06_unknown() {
        for (int h : not(0, 3)) {
            refused("house(" + h + ", 0)", who -> who.house(h, 0), UNKNOWN);
        }
        FullMoonWho one = of("VH00");
        due("the only one", one.house(0, 0), 0);
        for (int h : not(0, 0)) {
            for (int what = 0; what <= 5; what++) {
                due("house(" + h + ", " + what + ") of one", one.house(h, what), UNKNOWN);
            }
        }
    }

    /** "OUTSIDE." (what is 0 to 5). */
    static void p06_outside() {
        for (int what : not(0, 5)) {
            refused("house(0, " + what + ")", who -> who.house(0, what), OUTSIDE);
            refused("house(3, " + what + ")", who -> who.house(3, what), OUTSIDE);
        }
    }

    /** "UNKNOWN; OUTSIDE.": of both UNKNOWN. */
    static void p06_unknownAheadOfOutside() {
        for (int what : not(0, 5)) {
            due("house(4, " + what + ")", some().house(4, what), UNKNOWN);
            due("house(-1, " + what + ")", some().house(-1, what), UNKNOWN);
            due("new, house(0, " + what + ")", new FullMoonWho().house(0, what), UNKNOWN);
        }
    }

    /** "SHEEP (what = 0)": 0 and 9, in the first and the last house. */
    static void p06_leastAndMostSheep() {
        FullMoonWho who = of("VH90H00H00H90");
        due("first", who.house(0, 0), 9);
        due("second", who.house(1, 0), 0);
        due("third", who.house(2, 0), 0);
        due("last", who.house(3, 0), 9);
        due("all", who.count(6), 18);
    }

    /** "BOLT (1)": each of the three, in each house. */
    static void p06_eachBolt() {
        for (int h = 0; h < 4; h++) {
            for (int b = 0; b <= 2; b++) {
                FullMoonWho who = of("V" + "H00".repeat(h) + "H0" + b + "H00".repeat(3 - h));
                for (int g = 0; g < 4; g++) {
                    due("bolt of " + g + " where " + h + " has " + b, who.house(g, 1), g == h ? b : 0);
                }
            }
        }
    }

    /** "TRACKS (2)": none, and as many as can be: six wolves go to one house. */
    static void p06_leastAndMostTracks() {
        FullMoonWho who = of("VH00H00R010P01P01P01P01P01P01");
        due("none", who.house(1, 2), 0);
        for (int p = 0; p < 6; p++) {
            who.visit(p, 1);
            due("tracks", who.house(1, 2), p + 1);
        }
        due("none at their own house", who.house(0, 2), 0);
        who.dawn();
        due("none again", who.house(1, 2), 0);
    }

    /** "leaves a TRACK there, if the PATH is not by a WELL": none by the well, however many come. */
    static void p06_noTracksByAWell() {
        FullMoonWho who = of("VH00H00R011P01P01P01P01P01P01");
        for (int p = 0; p < 6; p++) {
            who.visit(p, 1);
            due("tracks", who.house(1, 2), 0);
        }
    }

    /** "whose it is (3: PEOPLE, bits)": nobody's, one's, all six's. */
    static void p06_nobodysAndEverybodys() {
        FullMoonWho who = of(SIX);
        due("everybody's", who.house(0, 3), 63);
        due("nobody's", who.house(1, 3), 0);
        FullMoonWho last = of("VH00H00P00P00P00P00P00P10");
        due("the last one's", last.house(1, 3), 32);
        due("the others'", last.house(0, 3), 31);
    }

    /** "HOUSES next to it by PATHS (4: bits), of these those by a WELL (5: bits)": none and all. */
    static void p06_noneAndAllNextToIt() {
        FullMoonWho none = of("VH00H00H00H00");
        FullMoonWho all = of(ALL);
        FullMoonWho wells = of("VH00H00H00H00R011R021R031R121R131R231");
        for (int h = 0; h < 4; h++) {
            int others = 15 & ~(1 << h);
            due("none next to " + h, none.house(h, 4), 0);
            due("no wells of " + h, none.house(h, 5), 0);
            due("all next to " + h, all.house(h, 4), others);
            due("none by a well", all.house(h, 5), 0);
            due("all next to " + h, wells.house(h, 4), others);
            due("all by a well", wells.house(h, 5), others);
        }
    }

    /** "Of a HOUSE ..": asking changes nothing. */
    static void p06_askingChangesNothing() {
        changesNothing("house(2, 0)", Edges::some, who -> who.house(2, 0), 0);
        changesNothing("house(3, 1)", Edges::some, who -> who.house(3, 1), 2);
    }

    // ---- promise 7

    /** "UNKNOWN (there is no such .. PERSON)". */
    static void p07_unknown() {
        for (int p : not(0, 5)) {
            refused("person(" + p + ", 0)", who -> who.person(p, 0), UNKNOWN);
        }
        FullMoonWho one = of("VH00P01");
        due("the only one", one.person(0, 1), 1);
        for (int p : not(0, 0)) {
            for (int what = 0; what <= 6; what++) {
                due("person(" + p + ", " + what + ") of one", one.person(p, what), UNKNOWN);
            }
        }
    }

    /** "OUTSIDE." (what is 0 to 6). */
    static void p07_outside() {
        for (int what : not(0, 6)) {
            refused("person(0, " + what + ")", who -> who.person(0, what), OUTSIDE);
            refused("person(5, " + what + ")", who -> who.person(5, what), OUTSIDE);
        }
    }

    /** "UNKNOWN; OUTSIDE.": of both UNKNOWN. */
    static void p07_unknownAheadOfOutside() {
        for (int what : not(0, 6)) {
            due("person(6, " + what + ")", some().person(6, what), UNKNOWN);
            due("person(-1, " + what + ")", some().person(-1, what), UNKNOWN);
            due("new, person(0, " + what + ")", new FullMoonWho().person(0, what), UNKNOWN);
        }
    }

    /** "its HOUSE (what = 0)": the first and the last one, of the first and the last person. */
    static void p07_firstAndLastHouse() {
        FullMoonWho who = of("VH00H00H00H00P30P00P00P00P00P30");
        due("of the first", who.person(0, 0), 3);
        due("of the second", who.person(1, 0), 0);
        due("of the last", who.person(5, 0), 3);
    }

    /** "whether it is a WOLF (1: 1, 0)": nobody is, all are. */
    static void p07_noWolfAndAllWolves() {
        FullMoonWho none = of(SIX);
        FullMoonWho all = of("VH00P01P01P01P01P01P01");
        for (int p = 0; p < 6; p++) {
            due("none", none.person(p, 1), 0);
            due("all", all.person(p, 1), 1);
        }
    }

    /** "who BIT it (5; NONE)": nobody, the first person, the last one. */
    static void p07_whoBitIt() {
        FullMoonWho who = of("VH00H00R010P01P10P10P10P10P01");
        for (int p = 0; p < 6; p++) {
            due("nobody bit " + p, who.person(p, 5), NONE);
        }
        who.visit(0, 1);
        who.visit(5, 1);
        due("the first person", who.person(1, 5), 0);
        due("the last person", who.person(2, 5), 5);
        due("nobody", who.person(3, 5), NONE);
        who.undo();
        due("nobody, when undone", who.person(2, 5), NONE);
        due("the first person still", who.person(1, 5), 0);
    }

    /** "KIN (6: bits)": none, all others. */
    static void p07_noKinAndAllKin() {
        FullMoonWho who = of("VH00P00P00P00P00P00P00K05K15K25K35K45");
        due("all others of the last", who.person(5, 6), 31);
        for (int p = 0; p < 5; p++) {
            due("the last of " + p, who.person(p, 6), 32);
        }
        due("none", of(SIX).person(5, 6), 0);
    }

    /** "HANGED (3), OUT (4)", "BITTEN in this NIGHT (2)": of those that were HANGED ahead of it and behind it. */
    static void p07_hangedOnes() {
        FullMoonWho who = some();
        due("hanged", who.person(5, 3), 1);
        due("hanged ones have their house still", who.person(5, 0), 2);
        who.hang(0);
        due("out and hanged", who.person(0, 4), 1);
        due("a wolf and hanged", who.person(0, 1), 1);
        who.hang(3);
        due("bitten and hanged", who.person(3, 2), 1);
        who.dawn();
        due("bitten no more", who.person(3, 2), 0);
        due("but a wolf", who.person(3, 1), 1);
        due("out no more", who.person(0, 4), 0);
        due("hanged still", who.person(0, 3), 1);
    }

    // ---- promise 8

    /** "UNKNOWN." */
    static void p08_unknown() {
        for (int p : not(0, 5)) {
            refused("may(" + p + ")", who -> who.may(p), UNKNOWN);
        }
        for (int p : not(0, 0)) {
            due("may(" + p + ") of one", of("VH00P01").may(p), UNKNOWN);
        }
    }

    /** "(0: it is no WOLF)": nor is one that is BITTEN in this NIGHT. */
    static void p08_noWolf() {
        FullMoonWho who = of(PAIR);
        due("no wolf", who.may(1), 0);
        who.visit(0, 1);
        due("bitten", who.may(1), 0);
        who.dawn();
        due("a wolf", who.may(1), 1);
    }

    /** "HOUSES that one MAY visit now, as bits": all others. */
    static void p08_allOthers() {
        for (int h = 0; h < 4; h++) {
            FullMoonWho who = of("VH90H90H90H90R010R020R030R120R130R230P" + h + "1");
            due("all others of " + h, who.may(0), 15 & ~(1 << h));
        }
    }

    /** "there is a PATH from that to the other one": none at all. */
    static void p08_noPath() {
        due("no path", of("VH00H00H00H00R120R130R230P01").may(0), 0);
        due("one house", of("VH00P01").may(0), 0);
    }

    /** "and that one is open": all are bolted or barred; the last one that is open. */
    static void p08_noHouseOpen() {
        FullMoonWho who = of(STAR);
        due("all", who.may(0), 14);
        who.bolt(1, 1);
        who.bolt(2, 2);
        due("the last one", who.may(0), 8);
        who.bolt(3, 1);
        due("none", who.may(0), 0);
    }

    /** "its own HOUSE is not BARRED": bolted it can be. */
    static void p08_ownHouseBarred() {
        FullMoonWho who = of(STAR);
        who.bolt(0, 1);
        due("bolted", who.may(0), 14);
        who.bolt(0, 2);
        due("barred", who.may(0), 0);
        who.bolt(0, 0);
        due("open", who.may(0), 14);
    }

    /** "was not OUT in this NIGHT". */
    static void p08_out() {
        FullMoonWho who = of(STAR);
        who.visit(0, 1);
        due("out", who.may(0), 0);
        who.dawn();
        due("by the next night", who.may(0), 14);
    }

    /** "if it is there (not HANGED)". */
    static void p08_hanged() {
        FullMoonWho who = of(STAR);
        who.hang(0);
        due("hanged", who.may(0), 0);
        who.dawn();
        due("by the next night, too", who.may(0), 0);
    }

    // ---- promise 9

    /** "UNKNOWN: person, house". */
    static void p09_unknown() {
        for (int p : not(0, 5)) {
            refused("prey(" + p + ", 1)", who -> who.prey(p, 1), UNKNOWN);
        }
        for (int h : not(0, 3)) {
            refused("prey(0, " + h + ")", who -> who.prey(0, h), UNKNOWN);
            due("prey(0, " + h + ") of one that may", of(ALL).prey(0, h), UNKNOWN);
        }
    }

    /** "UNKNOWN: person, house; STATE": of both UNKNOWN. */
    static void p09_unknownAheadOfState() {
        for (int h : not(0, 3)) {
            due("no wolf", of(ALL).prey(1, h), UNKNOWN);
            due("nobody", of(ALL).prey(6, h), UNKNOWN);
        }
    }

    /** "STATE: it MAY not visit it.": each reason why it may not. */
    static void p09_mayNot() {
        FullMoonWho who = of("VH00H00H01H02R010R020R030R120P01P10P11P31");
        due("own house", who.prey(0, 0), STATE);
        due("no wolf", who.prey(1, 0), STATE);
        due("bolted", who.prey(0, 2), STATE);
        due("barred", who.prey(0, 3), STATE);
        due("no path", who.prey(2, 3), STATE);
        due("out of a barred house", who.prey(3, 0), STATE);
        due("it may", who.prey(0, 1), 1);
        who.visit(0, 1);
        due("out", who.prey(0, 1), STATE);
        who.dawn();
        who.hang(0);
        due("hanged", who.prey(0, 1), STATE);
        refused("no wolf, of some of everything", x -> x.prey(1, 0), STATE);
        refused("out, of some of everything", x -> x.prey(0, 1), STATE);
    }

    /** "NONE: nobody (or it would eat a SHEEP).": 9 sheep, one sheep, none. */
    static void p09_sheep() {
        due("nine", of("VH00H90R010P01P10").prey(0, 1), NONE);
        due("one", of("VH00H10R010P01P10").prey(0, 1), NONE);
        due("none", of(PAIR).prey(0, 1), 1);
        due("sheep of its own house don't count", of("VH90H00R010P01P10").prey(0, 1), 1);
    }

    /** "NONE: nobody": nobody's house; only wolves, only HANGED, BITTEN, KIN are there. */
    static void p09_nobody() {
        due("nobody's house", of("VH00H00R010P01P00").prey(0, 1), NONE);
        due("a wolf", of("VH00H00R010P01P11").prey(0, 1), NONE);
        due("kin", of("VH00H00R010P01P10K01").prey(0, 1), NONE);
        due("kin, told the other way", of("VH00H00R010P01P10K10").prey(0, 1), NONE);
        FullMoonWho hanged = of(PAIR);
        hanged.hang(1);
        due("hanged", hanged.prey(0, 1), NONE);
        FullMoonWho bitten = of("VH00H00R010P01P01P10");
        bitten.visit(0, 1);
        due("bitten", bitten.prey(1, 1), NONE);
    }

    /** "the least PERSON of that HOUSE that is there, no WOLF, not BITTEN so far, none of its KIN": the last of six. */
    static void p09_theLeastThatCanBeBitten() {
        FullMoonWho who = of("VH00H00R010P10P11P10P10P01P10K40");
        due("0 is kin, 1 a wolf", who.prey(4, 1), 2);
        who.hang(2);
        due("2 is hanged", who.prey(4, 1), 3);
        who.visit(4, 1);
        who.dawn();
        due("3 is a wolf by now", who.prey(4, 1), 5);
    }

    /** "Whom it would BITE there now": asking changes nothing. */
    static void p09_askingChangesNothing() {
        changesNothing("prey(0, 1)", () -> of(ALL), who -> who.prey(0, 1), 2);
        changesNothing("a sheep", () -> of("VH00H10R010P01P10"), who -> who.prey(0, 1), NONE);
    }
}
