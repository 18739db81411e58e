/** Promises 1 to 5: a new object, write, wipe, fault, village. */
final class TextTest {
    private static final Check check = new Check("TextTest");
    private static final int OUTSIDE = FullMoonWho.OUTSIDE, STATE = FullMoonWho.STATE;
    private static final int FULL = FullMoonWho.FULL, NONE = FullMoonWho.NONE;

    public static void main(String[] args) {
        newObject();
        write();
        wipe();
        faultsOfBytes();
        faultsOfPartsThatCannotEnd();
        faultsAtTheEnd();
        village();
        villageForgetsAndKeeps();
        check.end();
    }

    private static void newObject() {
        FullMoonWho who = new FullMoonWho();
        for (int what = 0; what <= 10; what++) {
            check.due("1: new, count(" + what + ")", who.count(what), 0);
        }
        check.due("1: new, fault", who.fault(), 0);
        check.due("1: new, tales", who.tales(), 1);
        check.due("1: new, seed", who.seed(1), 0);
        check.due("1: UNKNOWN", FullMoonWho.UNKNOWN, -1);
        check.due("1: OUTSIDE", OUTSIDE, -2);
        check.due("1: STATE", STATE, -3);
        check.due("1: FULL", FULL, -4);
        check.due("1: NONE", NONE, -9);
    }

    private static void write() {
        FullMoonWho who = new FullMoonWho();
        check.due("2: write(0)", who.write(0, 'V'), OUTSIDE);
        check.due("2: write(9)", who.write(9, 'V'), OUTSIDE);
        check.due("2: write(-1)", who.write(-1, 'V'), OUTSIDE);
        check.due("2: nothing came", who.count(0), 0);
        // Only the lowest bytes count, the highest of these is the first.
        check.due("2: write(1)", who.write(1, 0x4100L + 'V'), 1);
        check.due("2: write(3)", who.write(3, -1L << 24 | 'H' << 16 | '4' << 8 | '2'), 4);
        check.due("2: village", who.village(), 10);
        check.due("2: sheep", who.house(0, 0), 4);
        check.due("2: bolt", who.house(0, 1), 2);
        for (int i = 0; i < 11; i++) {
            check.due("2: write(8)", who.write(8, 0), 12 + 8 * i);
        }
        check.due("2: write(5) to 97", who.write(5, 0), FULL);
        check.due("2: nothing came", who.count(0), 92);
        check.due("2: write(4) to 96", who.write(4, 0), 96);
        check.due("2: write(1) to 97", who.write(1, 0), FULL);
        check.due("2: OUTSIDE comes ahead of FULL", who.write(9, 0), OUTSIDE);
        check.due("2: fault stays", who.fault(), 4);
        FullMoonWho high = new FullMoonWho();
        high.write(8, 0xFFFFFFFFFFFFFFFFL);
        check.due("2: bytes above 127", high.fault(), 0);
    }

    private static void wipe() {
        FullMoonWho who = Check.villageOf("VH31P01");
        check.due("3: wipe", who.wipe(), 7);
        check.due("3: wipe again", who.wipe(), 0);
        check.due("3: length", who.count(0), 0);
        check.due("3: the village stays", who.count(2), 1);
        check.due("3: fault", who.fault(), 0);
    }

    private static void faultsOfBytes() {
        fault("V", NONE);
        fault("v", 0);
        fault("\u00d6", 0);
        fault("VX", 1);
        fault("VV", 1);
        fault("VH92", NONE);
        fault("VH/0", 2);
        fault("VH:0", 2);
        fault("VH03", 3);
        fault("VH0/", 3);
        fault("VH00P00", NONE);
        fault("VH00P10", 5);
        fault("VH00P02", 6);
        fault("VH00H00R010", NONE);
        fault("VH00H00R101", NONE);
        fault("VH00H00R012", 10);
        fault("VH00H00R020", 9);
        fault("VH00H00R200", 8);
        fault("VH00H00R000", 9);
        fault("VH00P00P00K01", NONE);
        fault("VH00P00P00K02", 12);
        fault("VH00P00P00K11", 12);
        fault("VH00H00R010H00R020R120P20", NONE);
        fault("VH00H00H00R010R100", 16);
        fault("VH00P00P00P00K01K10", 18);
        fault("VH00X", 4);
        fault("VP00H00", 1);
    }

    private static void faultsOfPartsThatCannotEnd() {
        fault("VR", 1);
        fault("VP", 1);
        fault("VK", 1);
        fault("VH00R", 4);
        fault("VH00K", 4);
        fault("VH00P00K", 7);
        fault("VH00H00H00H00", NONE);
        fault("VH00H00H00H00H", 13);
        fault("VH00P00P00P00P00P00P00", NONE);
        fault("VH00P00P00P00P00P00P00P", 22);
        fault("VH00H00R010R", 11);
        fault("VH00H00H00R010R020R0", 19);
        fault("VH00H00H00R010R020R1", 20);
        fault("VH00P00P00K01K", 13);
        fault("VH00P00P00P00K01K02K0", 20);
        fault("VH00P00P00P00K01K02K2", 21);
        fault("VH00P00P00P00K01K02K12K", 22);
        // All 15 pairs of kin: with their length set aside these are villages.
        fault("VH00P00P00P00P00P00P00K01K02K03K04K05K12K13K14K15K23K24K25K34K35K45", NONE);
        fault("VH00P00P00P00P00P00P00K01K02K03K04K05K12K13K14K15K23K24K25K34K35K45K", 67);
    }

    private static void faultsAtTheEnd() {
        fault("", 0);
        fault("VH", 2);
        fault("VH0", 3);
        fault("VH00P", 5);
        fault("VH00P0", 6);
        fault("VH00H00R", 8);
        fault("VH00H00R0", 9);
        fault("VH00H00R01", 10);
        fault("VH00P00P00K", 11);
        fault("VH00P00P00K0", 12);
    }

    private static void village() {
        FullMoonWho who = new FullMoonWho();
        check.due("5: empty text", who.village(), STATE);
        Check.rewrite(who, "V");
        check.due("5: V", who.village(), 0);
        Check.rewrite(who, "VH30H42R011P01P10P00K02");
        check.due("5: 2 houses, 3 people", who.village(), 23);
        check.due("5: the text stays", who.count(0), 23);
        check.due("5: again", who.village(), 23);
        Check.rewrite(who, "VH3");
        check.due("5: not at its end", who.village(), STATE);
        Check.rewrite(who, "VH33");
        check.due("5: a fault", who.village(), STATE);
        check.due("5: what is refused changes nothing", who.count(2), 3);
        check.due("5: nor the sheep", who.count(6), 7);
    }

    private static void villageForgetsAndKeeps() {
        FullMoonWho who = Check.villageOf("VH00H10R010P01P10");
        who.visit(0, 1);
        who.dawn();
        who.visit(0, 1);
        who.hang(0);
        who.keep(0);
        who.keep(1);
        who.seed(77);
        who.spoon(1, true);
        check.due("5: village", who.village(), 22);
        check.due("5: night 0", who.count(3), 0);
        check.due("5: no acts", who.count(7), 0);
        check.due("5: nothing to undo", who.undo(), STATE);
        check.due("5: nothing is kept in 0", who.again(0), STATE);
        check.due("5: nothing is kept in 1", who.again(1), STATE);
        check.due("5: sights stay", who.count(8), 1);
        check.due("5: the seed stays", who.seed(0), 77);
        check.due("5: sheep are back", who.house(1, 0), 1);
        check.due("5: no tracks", who.house(1, 2), 0);
        check.due("5: nobody is bitten", who.person(1, 2), 0);
        check.due("5: nobody bit", who.person(1, 5), NONE);
        check.due("5: nobody is hanged", who.person(0, 3), 0);
        check.due("5: nobody is out", who.person(0, 4), 0);
    }

    private static void fault(String text, int want) {
        check.due("4: fault of " + text, Check.faultOf(text), want);
    }
}
