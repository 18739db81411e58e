/** Promises 6 to 9: house, person, may, prey. */
final class VillageTest {
    private static final Check check = new Check("VillageTest");
    private static final int UNKNOWN = FullMoonWho.UNKNOWN, OUTSIDE = FullMoonWho.OUTSIDE;
    private static final int STATE = FullMoonWho.STATE, NONE = FullMoonWho.NONE;

    public static void main(String[] args) {
        house();
        person();
        may();
        prey();
        check.end();
    }

    private static void house() {
        FullMoonWho who = Check.villageOf("VH90H01H32R010R021P01P20P01");
        check.due("6: sheep", who.house(0, 0), 9);
        check.due("6: sheep", who.house(2, 0), 3);
        check.due("6: open", who.house(0, 1), 0);
        check.due("6: bolted", who.house(1, 1), 1);
        check.due("6: barred", who.house(2, 1), 2);
        check.due("6: whose", who.house(0, 3), 5);
        check.due("6: whose", who.house(1, 3), 0);
        check.due("6: whose", who.house(2, 3), 2);
        check.due("6: next to 0", who.house(0, 4), 6);
        check.due("6: next to 1", who.house(1, 4), 1);
        check.due("6: next to 2", who.house(2, 4), 1);
        check.due("6: by a well from 0", who.house(0, 5), 4);
        check.due("6: by a well from 1", who.house(1, 5), 0);
        check.due("6: by a well from 2", who.house(2, 5), 1);
        check.due("6: UNKNOWN 3", who.house(3, 0), UNKNOWN);
        check.due("6: UNKNOWN -1", who.house(-1, 0), UNKNOWN);
        check.due("6: OUTSIDE 6", who.house(0, 6), OUTSIDE);
        check.due("6: OUTSIDE -1", who.house(0, -1), OUTSIDE);
        check.due("6: UNKNOWN comes first", who.house(3, 6), UNKNOWN);
        who.bolt(1, 0);
        who.bolt(2, 0);
        check.due("6: no tracks", who.house(1, 2), 0);
        who.visit(0, 1);
        who.visit(2, 1);
        check.due("6: two tracks", who.house(1, 2), 2);
        who.undo();
        who.visit(2, 2);
        check.due("6: one track", who.house(1, 2), 1);
        check.due("6: the well washes it away", who.house(2, 2), 0);
        check.due("6: a sheep is eaten", who.house(2, 0), 2);
        who.dawn();
        check.due("6: no tracks by day", who.house(1, 2), 0);
        who.hang(2);
        check.due("6: a hanged one's house stays its own", who.house(0, 3), 5);
    }

    private static void person() {
        FullMoonWho who = Check.villageOf("VH00H00R010P01P10P10K01K20");
        check.due("7: home", who.person(0, 0), 0);
        check.due("7: home", who.person(1, 0), 1);
        check.due("7: wolf", who.person(0, 1), 1);
        check.due("7: no wolf", who.person(1, 1), 0);
        check.due("7: kin of 0", who.person(0, 6), 6);
        check.due("7: kin of 1", who.person(1, 6), 1);
        check.due("7: kin of 2", who.person(2, 6), 1);
        check.due("7: nobody bit it", who.person(1, 5), NONE);
        check.due("7: UNKNOWN 3", who.person(3, 0), UNKNOWN);
        check.due("7: UNKNOWN -1", who.person(-1, 0), UNKNOWN);
        check.due("7: OUTSIDE 7", who.person(0, 7), OUTSIDE);
        check.due("7: OUTSIDE -1", who.person(0, -1), OUTSIDE);
        check.due("7: UNKNOWN comes first", who.person(3, 7), UNKNOWN);
        FullMoonWho bites = Check.villageOf("VH00H00R010P01P10P01");
        bites.visit(2, 1);
        check.due("7: bitten", bites.person(1, 2), 1);
        check.due("7: a bitten one is no wolf yet", bites.person(1, 1), 0);
        check.due("7: who bit it", bites.person(1, 5), 2);
        check.due("7: out", bites.person(2, 4), 1);
        check.due("7: not out", bites.person(0, 4), 0);
        check.due("7: not hanged", bites.person(2, 3), 0);
        bites.hang(2);
        check.due("7: hanged", bites.person(2, 3), 1);
        check.due("7: still a wolf", bites.person(2, 1), 1);
        bites.dawn();
        check.due("7: bitten no more", bites.person(1, 2), 0);
        check.due("7: a wolf now", bites.person(1, 1), 1);
        check.due("7: who bit it is known still", bites.person(1, 5), 2);
        check.due("7: nobody is out", bites.person(2, 4), 0);
    }

    private static void may() {
        FullMoonWho who = Check.villageOf("VH00H00H01H02R010R021R030R120P01P00P11P31P01");
        check.due("8: open ones next to it", who.may(0), 2);
        check.due("8: no wolf", who.may(1), 0);
        check.due("8: from the other house", who.may(2), 1);
        check.due("8: out of a barred house", who.may(3), 0);
        check.due("8: UNKNOWN 5", who.may(5), UNKNOWN);
        check.due("8: UNKNOWN -1", who.may(-1), UNKNOWN);
        who.bolt(2, 0);
        check.due("8: a well bars nobody", who.may(0), 6);
        who.bolt(0, 1);
        check.due("8: out of a bolted house", who.may(0), 6);
        check.due("8: but not into it", who.may(2), 4);
        who.visit(0, 2);
        check.due("8: it is out", who.may(0), 0);
        check.due("8: the other wolf of the house is not", who.may(4), 6);
        who.dawn();
        check.due("8: by the next night", who.may(0), 6);
        who.hang(0);
        check.due("8: hanged", who.may(0), 0);
    }

    private static void prey() {
        FullMoonWho who = Check.villageOf("VH00H00H10R010R020P01P10P11P10P20P01K01");
        check.due("9: the least that is no kin", who.prey(0, 1), 3);
        check.due("9: the least", who.prey(5, 1), 1);
        check.due("9: a sheep", who.prey(0, 2), NONE);
        check.due("9: UNKNOWN person", who.prey(6, 1), UNKNOWN);
        check.due("9: UNKNOWN person -1", who.prey(-1, 1), UNKNOWN);
        check.due("9: UNKNOWN house", who.prey(0, 3), UNKNOWN);
        check.due("9: UNKNOWN house -1", who.prey(0, -1), UNKNOWN);
        check.due("9: its own house", who.prey(0, 0), STATE);
        check.due("9: no wolf", who.prey(1, 0), STATE);
        check.due("9: no path", who.prey(2, 2), STATE);
        who.visit(5, 1);
        check.due("9: one that is out", who.prey(5, 1), STATE);
        who.undo();
        who.hang(3);
        check.due("9: only kin and wolves are left", who.prey(0, 1), NONE);
        who.hang(1);
        check.due("9: only wolves are left", who.prey(5, 1), NONE);
        who.undo();
        who.visit(5, 1);
        check.due("9: bitten already", who.person(1, 2), 1);
        FullMoonWho two = Check.villageOf("VH00H00R010P01P01P10P10");
        two.visit(0, 1);
        check.due("9: the next one, that is not bitten", two.prey(1, 1), 3);
        check.due("9: asking changes nothing", two.person(3, 2), 0);
    }
}
