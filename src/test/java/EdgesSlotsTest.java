/** The edges of promises 37 to 39 (keep, again, count) and of the terms that they take up. */
final class EdgesSlotsTest extends Edges {
    public static void main(String[] args) throws IllegalAccessException {
        runAll(EdgesSlotsTest.class);
    }

    // ---- promise 37

    /** "SLOTS 0 to 1", "UNKNOWN." */
    static void p37_unknown() {
        for (int slot : not(0, 1)) {
            refused("keep(" + slot + ")", who -> who.keep(slot), UNKNOWN);
            changesNothing("keep(" + slot + ")", FullMoonWho::new, who -> who.keep(slot), UNKNOWN);
        }
    }

    /** "They are kept: THE NIGHT.": of a new object; in both slots. */
    static void p37_newObject() {
        FullMoonWho who = new FullMoonWho();
        due("keep(0)", who.keep(0), 0);
        due("keep(1)", who.keep(1), 0);
        due("again(0)", who.again(0), 0);
        due("again(1)", who.again(1), 0);
    }

    /** "They are kept: THE NIGHT.": a full one gives way to what is kept next, the other one stays. */
    static void p37_keptOverIt() {
        FullMoonWho who = of(PAIR);
        who.keep(0);
        who.keep(1);
        who.dawn();
        due("night 1 into 0", who.keep(0), 1);
        who.dawn();
        due("0 again", who.again(0), 1);
        due("1 again", who.again(1), 0);
        due("0 once more", who.again(0), 1);
    }

    /** "They are kept": THE ROW of ACTS stays, also a full one. */
    static void p37_actsStay() {
        FullMoonWho who = full();
        due("keep", who.keep(0), 1);
        due("acts", who.count(7), 16);
        due("undo", who.undo(), 15);
    }

    /** "They are kept": what is done then doesn't change them. */
    static void p37_aCopyIsKept() {
        FullMoonWho who = of(ALL);
        who.keep(0);
        who.visit(0, 1);
        who.dawn();
        who.bolt(2, 2);
        who.hang(4);
        who.again(0);
        FullMoonWho fresh = of(ALL);
        fresh.keep(0);
        due("as it was", Look.of(who).equals(Look.of(fresh)) ? 1 : 0, 1);
        FullMoonWho twice = of(ALL);
        twice.keep(0);
        twice.again(0);
        twice.hang(4);
        due("again from the same", twice.again(0), 0);
        due("all are there", twice.count(5), 63);
    }

    // ---- promise 38

    /** "UNKNOWN". */
    static void p38_unknown() {
        for (int slot : not(0, 1)) {
            refused("again(" + slot + ")", who -> who.again(slot), UNKNOWN);
        }
    }

    /** "UNKNOWN; STATE: none were kept.": of both UNKNOWN. */
    static void p38_unknownAheadOfState() {
        for (int slot : not(0, 1)) {
            changesNothing("again(" + slot + ")", () -> of(ALL), who -> who.again(slot), UNKNOWN);
            changesNothing("again(" + slot + ")", FullMoonWho::new, who -> who.again(slot), UNKNOWN);
        }
    }

    /** "STATE: none were kept.": in neither, in the other one alone, behind a new village. */
    static void p38_noneWereKept() {
        for (int slot = 0; slot <= 1; slot++) {
            int asked = slot;
            changesNothing("new", FullMoonWho::new, who -> who.again(asked), STATE);
            changesNothing("only the other one", () -> {
                FullMoonWho who = of(ALL);
                who.visit(0, 1);
                who.keep(1 - asked);
                return who;
            }, who -> who.again(asked), STATE);
            changesNothing("behind village", () -> {
                FullMoonWho who = some();
                Check.rewrite(who, PAIR);
                who.village();
                who.visit(0, 1);
                return who;
            }, who -> who.again(asked), STATE);
        }
    }

    /** "what was kept is gone" only when THE TEXT is THE VILLAGE: not by a village that is refused. */
    static void p38_keptBehindARefusedVillage() {
        FullMoonWho who = some();
        due("refused", who.village(), STATE);
        due("again(0)", who.again(0), 1);
        due("again(1)", who.again(1), 0);
    }

    /** "(THE ROW of ACTS is empty when one goes on)": also a full one. */
    static void p38_theRowIsEmpty() {
        FullMoonWho who = full();
        due("again", who.again(0), 1);
        due("acts", who.count(7), 0);
        due("undo", who.undo(), STATE);
        for (int i = 1; i <= 17; i++) {
            who.dawn();
            due("acts", who.count(7), Math.min(16, i));
        }
        due("undo", who.undo(), 15);
    }

    /** "SLOTS keep SHEEP, BOLTS, PEOPLE, who is OUT, TRACKS, THE NIGHT": each of them, at both ends. */
    static void p38_eachOfThem() {
        FullMoonWho who = of("VH00H90H02R010R020P01P10P20");
        who.keep(0);
        who.visit(0, 1);
        who.bolt(0, 1);
        who.bolt(2, 0);
        who.hang(2);
        who.dawn();
        who.bolt(1, 1);
        who.keep(1);
        who.again(0);
        due("sheep", who.house(1, 0), 9);
        due("bolts", who.house(0, 1) + 10 * who.house(1, 1) + 100 * who.house(2, 1), 200);
        due("people", who.count(5), 7);
        due("out", who.person(0, 4), 0);
        due("night", who.count(3), 0);
        who.visit(0, 1);
        who.keep(0);
        who.again(1);
        due("sheep", who.house(1, 0), 8);
        due("bolts", who.house(0, 1) + 10 * who.house(1, 1) + 100 * who.house(2, 1), 11);
        due("people", who.count(5), 3);
        due("tracks", who.house(1, 2), 0);
        due("night", who.count(3), 1);
        who.again(0);
        due("out", who.person(0, 4), 1);
        due("tracks", who.house(1, 2), 1);
    }

    /** "They are as they were kept": SIGHTS, THE SEED and THE TEXT are not among them. */
    static void p38_whatIsNotKept() {
        FullMoonWho who = of(PAIR);
        who.keep(0);
        who.spoon(0, true);
        who.seed(5);
        who.wipe();
        due("again", who.again(0), 0);
        due("sights", who.count(8), 1);
        due("bytes", who.count(0), 0);
        due("seed", who.seed(0), 5);
    }

    // ---- promise 39

    /** "OUTSIDE." (what is 0 to 10). */
    static void p39_outside() {
        for (int what : not(0, 10)) {
            refused("count(" + what + ")", who -> who.count(what), OUTSIDE);
            due("new, count(" + what + ")", new FullMoonWho().count(what), OUTSIDE);
        }
    }

    /** "0 bytes of THE TEXT .. 10 HOUSES that are open": the least of each. */
    static void p39_least() {
        FullMoonWho who = new FullMoonWho();
        for (int what = 0; what <= 10; what++) {
            due("count(" + what + ")", who.count(what), 0);
        }
    }

    /** "0 bytes of THE TEXT .. 10 HOUSES that are open": the most of each. */
    static void p39_most() {
        FullMoonWho who = of("VH90H90H90H90R010R020R030R120R130R231P01P01P01P01P01P01");
        who.wipe();
        for (int i = 0; i < 12; i++) {
            who.write(8, 0);
        }
        for (int i = 0; i < 20; i++) {
            who.dawn();
        }
        for (int i = 0; i < 7; i++) {
            who.spoon(i % 6, false);
        }
        long[] due = {96, 4, 6, 20, 63, 63, 36, 16, 6, 6, 15};
        for (int what = 0; what < due.length; what++) {
            due("count(" + what + ")", who.count(what), due[what]);
        }
    }

    /** "4 WOLVES that are there (bits), 5 who is there (bits)": HANGED ones are not, BITTEN ones are no wolves yet. */
    static void p39_whoIsThere() {
        FullMoonWho who = of(PAIR);
        who.visit(0, 1);
        due("wolves", who.count(4), 1);
        who.dawn();
        due("wolves", who.count(4), 3);
        who.hang(0);
        due("wolves there", who.count(4), 2);
        due("there", who.count(5), 2);
        who.hang(1);
        due("wolves there", who.count(4), 0);
        due("there", who.count(5), 0);
        due("people all the same", who.count(2), 2);
    }

    /** "6 SHEEP of all": to the last one. */
    static void p39_sheepOfAll() {
        FullMoonWho who = of("VH00H10R010P01");
        due("one", who.count(6), 1);
        who.visit(0, 1);
        due("none", who.count(6), 0);
        who.undo();
        due("one again", who.count(6), 1);
    }

    /** "10 HOUSES that are open (bits)": neither BOLTED nor BARRED ones. */
    static void p39_openHouses() {
        FullMoonWho who = of("VH00H01H02H00");
        due("two of four", who.count(10), 9);
        who.bolt(0, 2);
        who.bolt(3, 1);
        due("none", who.count(10), 0);
    }

    /** "count": asking changes nothing. */
    static void p39_askingChangesNothing() {
        for (int what = 0; what <= 10; what++) {
            int asked = what;
            long due = full().count(what);
            changesNothing("count(" + what + ")", Edges::full, who -> who.count(asked), due);
        }
    }
}
