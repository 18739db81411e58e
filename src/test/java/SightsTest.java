/** Promises 19 to 29: track, hungry, spoon, unsee, tales, sets, setAt, sure, likely, toTest, tests. */
final class SightsTest {
    private static final Check check = new Check("SightsTest");
    private static final int UNKNOWN = FullMoonWho.UNKNOWN, OUTSIDE = FullMoonWho.OUTSIDE;
    private static final int STATE = FullMoonWho.STATE, FULL = FullMoonWho.FULL, NONE = FullMoonWho.NONE;
    /** Two in one house, each can go to the other one or stay: 1 and 8 tales for each of them. */
    private static final String TWO = "VH00H00R010P01P00";
    private static final String THREE = "VH00H00R010P00P00P00";

    public static void main(String[] args) {
        sightsAreTold();
        sightsAreRefused();
        tales();
        talesByTracks();
        talesByBreakfastsAndSpoons();
        talesOfSeveralHouses();
        talesOfTheVillageAsItIs();
        whatIsNotLookedAt();
        setsInOrder();
        sure();
        likely();
        toTest();
        tests();
        check.end();
    }

    private static void sightsAreTold() {
        FullMoonWho who = Check.villageOf(TWO);
        check.due("22: none", who.unsee(), 0);
        check.due("19: track", who.track(0, 1, 6), 1);
        check.due("20: hungry", who.hungry(2, 1, true), 2);
        check.due("21: spoon", who.spoon(0, true), 3);
        check.due("19: track", who.track(2, 0, 0), 4);
        check.due("20: hungry", who.hungry(0, 0, false), 5);
        check.due("21: the same again counts, too", who.spoon(0, true), 6);
        check.due("19: FULL", who.track(0, 0, 0), FULL);
        check.due("20: FULL", who.hungry(0, 0, true), FULL);
        check.due("21: FULL", who.spoon(0, true), FULL);
        check.due("39: sights", who.count(8), 6);
        check.due("22: unsee", who.unsee(), 6);
        check.due("22: none any more", who.count(8), 0);
        check.due("22: nothing is looked at", who.tales(), 81);
    }

    private static void sightsAreRefused() {
        FullMoonWho who = Check.villageOf(TWO);
        for (int full = 0; full <= 6; full += 6) {
            check.due("19: UNKNOWN 2", who.track(0, 2, 0), UNKNOWN);
            check.due("19: UNKNOWN -1", who.track(0, -1, 0), UNKNOWN);
            check.due("19: UNKNOWN comes first", who.track(3, 2, 7), UNKNOWN);
            check.due("19: OUTSIDE moon 3", who.track(3, 0, 0), OUTSIDE);
            check.due("19: OUTSIDE moon -1", who.track(-1, 0, 0), OUTSIDE);
            check.due("19: OUTSIDE k 7", who.track(0, 0, 7), OUTSIDE);
            check.due("19: OUTSIDE k -1", who.track(0, 0, -1), OUTSIDE);
            check.due("20: UNKNOWN 2", who.hungry(0, 2, true), UNKNOWN);
            check.due("20: UNKNOWN -1", who.hungry(0, -1, true), UNKNOWN);
            check.due("20: UNKNOWN comes first", who.hungry(3, 2, true), UNKNOWN);
            check.due("20: OUTSIDE moon 3", who.hungry(3, 0, true), OUTSIDE);
            check.due("20: OUTSIDE moon -1", who.hungry(-1, 0, true), OUTSIDE);
            check.due("21: UNKNOWN 2", who.spoon(2, true), UNKNOWN);
            check.due("21: UNKNOWN -1", who.spoon(-1, true), UNKNOWN);
            check.due("22: none came of it", who.count(8), full);
            for (int i = who.count(8); i < 6; i++) {
                who.spoon(0, true);
            }
        }
    }

    private static void tales() {
        check.due("23: nobody", new FullMoonWho().tales(), 1);
        check.due("23: two", Check.villageOf(TWO).tales(), 81);
        check.due("23: who can go nowhere", Check.villageOf("VH00P00").tales(), 2);
        check.due("23: most of all",
                Check.villageOf("VH00H00H00H00R010R021R030P00P00P00P00P00P00").tales(), 75418890625L);
    }

    private static void talesByTracks() {
        long[][] due = {{0, 25, 4}, {1, 40, 3}, {2, 16, 1}, {3, 0, 0}, {6, 0, 0}};
        for (long[] row : due) {
            for (int moon = 0; moon < 3; moon++) {
                FullMoonWho who = Check.villageOf(TWO);
                who.track(moon, 1, (int) row[0]);
                check.due("23: tracks " + row[0], who.tales(), row[1]);
                check.due("24: tracks " + row[0], who.sets(), row[2]);
            }
        }
        FullMoonWho own = Check.villageOf(TWO);
        own.track(1, 0, 0);
        check.due("23: nobody comes to its own house", own.tales(), 81);
        own.track(1, 0, 1);
        check.due("23: none or one", own.tales(), 0);
        FullMoonWho well = Check.villageOf("VH00H00R011P01P00");
        well.track(0, 1, 0);
        check.due("23: a well washes tracks away", well.tales(), 81);
        well.unsee();
        well.track(0, 1, 1);
        check.due("23: a track that is there by no way", well.tales(), 0);
        FullMoonWho moons = Check.villageOf(TWO);
        moons.track(0, 1, 1);
        moons.track(2, 1, 2);
        check.due("23: two moons", moons.tales(), 2 * 4 * 1);
        moons.track(2, 1, 2);
        check.due("23: the same sight again", moons.tales(), 8);
        moons.track(2, 1, 1);
        check.due("23: another count in the same moon", moons.tales(), 0);
    }

    private static void talesByBreakfastsAndSpoons() {
        FullMoonWho who = Check.villageOf(TWO);
        who.hungry(1, 0, true);
        check.due("23: hungry", who.tales(), 5 * 9);
        check.due("24: hungry", who.sets(), 4);
        who.unsee();
        who.hungry(1, 0, false);
        check.due("23: not hungry", who.tales(), 4 * 9);
        check.due("24: not hungry", who.sets(), 2);
        who.hungry(1, 0, true);
        check.due("23: both", who.tales(), 0);
        who.unsee();
        who.hungry(1, 0, false);
        who.hungry(2, 0, true);
        check.due("23: two moons", who.tales(), 2 * 9);
        who.unsee();
        who.spoon(0, true);
        check.due("23: the spoon was taken", who.tales(), 9);
        who.unsee();
        who.spoon(0, false);
        check.due("23: the spoon was not taken", who.tales(), 72);
        who.spoon(1, true);
        check.due("23: two spoons", who.tales(), 8);
        who.hungry(0, 1, true);
        check.due("23: one that is no wolf is hungry", who.tales(), 8);
        who.hungry(0, 1, false);
        check.due("23: and never is not", who.tales(), 0);
        who.unsee();
        who.track(0, 1, 1);
        who.hungry(0, 0, true);
        check.due("23: the other one left the track", who.tales(), 4 * 5);
    }

    /** A house can be looked at from several ones, and several houses in one moon. */
    private static void talesOfSeveralHouses() {
        FullMoonWho who = Check.villageOf("VH00H00H00R010R021R120P00P10P20");
        check.due("23: three in a ring", who.tales(), 28L * 28 * 28);
        who.track(0, 0, 1);
        // Only from 1 a track comes to 0: 1 goes there; 0 and 2 do as they like.
        check.due("23: by one path of two", who.tales(), 9L * 28 * 28);
        who.track(0, 1, 2);
        check.due("23: and two tracks at 1", who.tales(), 9L * 9 * 9);
        who.track(0, 2, 0);
        check.due("23: and none at 2", who.tales(), 9L * 9 * 9);
        who.track(0, 2, 1);
        check.due("23: one and none at 2", who.tales(), 0);
    }

    private static void talesOfTheVillageAsItIs() {
        FullMoonWho who = Check.villageOf("VH90H00R010P01P00P10");
        check.due("23: sheep and wolves do not count", who.tales(), 729);
        who.visit(0, 1);
        check.due("23: nor does who is out or bitten", who.tales(), 729);
        who.dawn();
        who.bolt(1, 1);
        check.due("23: nobody goes to a bolted house", who.tales(), 2 * 2 * 9);
        who.bolt(1, 2);
        check.due("23: nobody leaves a barred house", who.tales(), 2 * 2 * 2);
        who.bolt(1, 0);
        who.hang(0);
        check.due("23: hanged ones never", who.tales(), 81);
        check.due("24: hanged ones never", who.sets(), 4);
        check.due("25: hanged ones never", who.setAt(1), 2);
    }

    private static void whatIsNotLookedAt() {
        FullMoonWho who = Check.villageOf(TWO);
        who.hungry(0, 0, false);
        who.spoon(0, true);
        check.due("23: nothing fits", who.tales(), 0);
        who.hang(0);
        check.due("23: of hanged ones nothing is looked at", who.tales(), 9);
        who.undo();
        check.due("23: looked at again", who.tales(), 0);
        who.unsee();
        who.track(0, 1, 2);
        who.spoon(1, true);
        check.due("23: nothing fits", who.tales(), 0);
        Check.rewrite(who, "VH00P00");
        who.village();
        check.due("23: houses and people that are there no more", who.tales(), 2);
        Check.rewrite(who, TWO);
        who.village();
        check.due("23: they are there again", who.tales(), 0);
    }

    private static void setsInOrder() {
        FullMoonWho who = Check.villageOf(THREE);
        check.due("24: all", who.sets(), 8);
        who.track(0, 1, 2);
        check.due("24: two at least", who.sets(), 4);
        int[] due = {3, 5, 6, 7};
        for (int i = 0; i < due.length; i++) {
            check.due("25: setAt(" + i + ")", who.setAt(i), due[i]);
        }
        check.due("25: not so many", who.setAt(4), NONE);
        check.due("25: not so many", who.setAt(64), NONE);
        check.due("25: not so many", who.setAt(Integer.MAX_VALUE), NONE);
        check.due("25: below", who.setAt(-1), NONE);
        who.track(0, 1, 3);
        check.due("24: none", who.sets(), 0);
        check.due("25: none", who.setAt(0), NONE);
        check.due("24: the empty set", new FullMoonWho().sets(), 1);
        check.due("25: the empty set", new FullMoonWho().setAt(0), 0);
    }

    private static void sure() {
        FullMoonWho who = Check.villageOf("VH00H00R010P00P00P00P00");
        check.due("26: of all", who.sure(0), 0);
        check.due("26: of none", who.sure(1), 0);
        check.due("26: of some", who.sure(2), 15);
        who.hungry(0, 1, false);
        who.spoon(2, true);
        who.hang(0);
        check.due("26: of all", who.sure(0), 2);
        check.due("26: of none, but there", who.sure(1), 4);
        check.due("26: of some", who.sure(2), 10);
        check.due("26: OUTSIDE 3", who.sure(3), OUTSIDE);
        check.due("26: OUTSIDE -1", who.sure(-1), OUTSIDE);
        who.spoon(1, true);
        for (int what = 0; what < 3; what++) {
            check.due("26: no set", who.sure(what), NONE);
        }
        check.due("26: OUTSIDE, where there is no set", who.sure(3), OUTSIDE);
    }

    private static void likely() {
        FullMoonWho who = Check.villageOf(TWO);
        fraction("27: without sights", who, 0, 8, 9);
        who.track(0, 1, 1);
        fraction("27: one of two", who, 0, 9, 10);
        fraction("27: one of two", who, 1, 9, 10);
        who.hungry(0, 1, true);
        fraction("27: surely", who, 0, 1, 1);
        fraction("27: the other one", who, 1, 4, 5);
        who.spoon(1, true);
        fraction("27: surely not", who, 1, 0, 1);
        check.due("27: UNKNOWN 2", who.likely(2, true), UNKNOWN);
        check.due("27: UNKNOWN -1", who.likely(-1, false), UNKNOWN);
        who.spoon(0, true);
        check.due("27: STATE", who.likely(0, true), STATE);
        check.due("27: STATE", who.likely(0, false), STATE);
        check.due("27: UNKNOWN comes first", who.likely(2, true), UNKNOWN);
        who.unsee();
        who.hang(1);
        fraction("27: a hanged one", who, 1, 0, 1);
        fraction("27: the other one", who, 0, 8, 9);
    }

    private static void fraction(String what, FullMoonWho who, int person, long above, long below) {
        check.due(what + ", above", who.likely(person, true), above);
        check.due(what + ", below", who.likely(person, false), below);
    }

    private static void toTest() {
        check.due("28: nobody", new FullMoonWho().toTest(), NONE);
        FullMoonWho who = Check.villageOf(THREE);
        check.due("28: the least", who.toTest(), 0);
        who.spoon(0, true);
        check.due("28: not one whose spoon tells nothing", who.toTest(), 1);
        who.spoon(1, false);
        check.due("28: nor the next one", who.toTest(), 2);
        who.spoon(2, false);
        check.due("28: all is known: the least", who.toTest(), 0);
        who.hang(0);
        check.due("28: the least that is there", who.toTest(), 1);
        who.spoon(1, true);
        check.due("28: no set", who.toTest(), NONE);
        who.unsee();
        who.hang(1);
        who.hang(2);
        check.due("28: nobody is there", who.toTest(), NONE);
        // Of 0 and 1 one at least was out; of 2 nothing is known.
        FullMoonWho worst = Check.villageOf("VH00H00H02R010P00P00P20");
        worst.track(0, 1, 1);
        check.due("28: half of the sets at worst", worst.toTest(), 2);
    }

    private static void tests() {
        check.due("29: nobody", new FullMoonWho().tests(), 0);
        check.due("29: six", Check.villageOf("VH00P00P00P00P00P00P00").tests(), 6);
        FullMoonWho who = Check.villageOf(THREE);
        check.due("29: all sets of three", who.tests(), 3);
        who.track(0, 1, 2);
        check.due("29: four sets, but three spoons", who.tests(), 3);
        who.spoon(0, false);
        check.due("29: three sets", who.tests(), 2);
        who.spoon(1, true);
        check.due("29: one set", who.tests(), 0);
        who.spoon(2, true);
        check.due("29: no set", who.tests(), NONE);
        who.unsee();
        who.hang(0);
        check.due("29: two are there", who.tests(), 2);
    }
}
