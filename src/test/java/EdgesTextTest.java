/** The edges of promises 1 to 5 (a new object, write, wipe, fault, village) and of the terms that they take up. */
final class EdgesTextTest extends Edges {
    /** Four houses, five paths, six people, all 15 pairs of kin: just 96 bytes. */
    private static final String LONGEST = "VH00H00H00H00R010R020R030R120R130P00P10P20P30P00P11"
            + "K01K02K03K04K05K12K13K14K15K23K24K25K34K35K45";
    /** The first 96 bytes of a village of 100. */
    private static final String CUT = "VH00H00H00H00R010R020R030R120R130R230P00P10P20P30P00P11"
            + "K01K02K03K04K05K12K13K14K15K23K24K25K34K3";

    public static void main(String[] args) throws IllegalAccessException {
        runAll(EdgesTextTest.class);
    }

    private static void fault(String text, int want) {
        due("fault of " + text, Check.faultOf(text), want);
        FullMoonWho who = new FullMoonWho();
        Check.rewrite(who, text);
        int told = who.village();
        due("village of " + text + " is refused, if there is a fault", told < 0 ? told : 0, want == NONE ? 0 : STATE);
    }

    /** A text of so many bytes, begun by this. */
    private static FullMoonWho textOf(String begin, int length) {
        FullMoonWho who = new FullMoonWho();
        Check.rewrite(who, begin);
        for (int i = begin.length(); i < length; i++) {
            who.write(1, '0');
        }
        return who;
    }

    // ---- promise 1

    /** "No houses, nobody." */
    static void p01_noHousesNobody() {
        FullMoonWho who = new FullMoonWho();
        due("houses", who.count(1), 0);
        due("people", who.count(2), 0);
        due("who is there", who.count(5), 0);
        due("wolves", who.count(4), 0);
        due("sheep", who.count(6), 0);
        due("paths", who.count(9), 0);
        due("open houses", who.count(10), 0);
    }

    /** "UNKNOWN (there is no such HOUSE, PERSON, SLOT)": in a new object there is no house and no person at all. */
    static void p01_everyHouseAndPersonIsUnknown() {
        FullMoonWho who = new FullMoonWho();
        due("house", who.house(0, 0), UNKNOWN);
        due("person", who.person(0, 0), UNKNOWN);
        due("may", who.may(0), UNKNOWN);
        due("prey", who.prey(0, 0), UNKNOWN);
        due("visit", who.visit(0, 0), UNKNOWN);
        due("hang", who.hang(0), UNKNOWN);
        due("bolt", who.bolt(0, 1), UNKNOWN);
        due("first", who.first(0), UNKNOWN);
        due("line", who.line(0), UNKNOWN);
        due("brood", who.brood(0), UNKNOWN);
        due("track", who.track(0, 0, 0), UNKNOWN);
        due("hungry", who.hungry(0, 0, true), UNKNOWN);
        due("spoon", who.spoon(0, true), UNKNOWN);
        due("likely above", who.likely(0, true), UNKNOWN);
        due("likely below", who.likely(0, false), UNKNOWN);
        due("vote", who.vote(0), UNKNOWN);
        due("danger above", who.danger(0, 1, true), UNKNOWN);
        due("danger below", who.danger(0, 1, false), UNKNOWN);
    }

    /** "At first THE VILLAGE is V.": what can be asked without houses and people is answered. */
    static void p01_theVillageIsVAtFirst() {
        FullMoonWho who = new FullMoonWho();
        due("tales: that of nobody", who.tales(), 1);
        due("sets: the empty one", who.sets(), 1);
        due("setAt(0)", who.setAt(0), 0);
        due("setAt(1)", who.setAt(1), NONE);
        for (int what = 0; what <= 2; what++) {
            due("sure(" + what + ")", who.sure(what), 0);
        }
        due("toTest", who.toTest(), NONE);
        due("tests", who.tests(), 0);
        due("hanged", who.hanged(), NONE);
        due("safe", who.safe(), 0);
        due("locked", who.locked(), 0);
        due("years(1)", who.years(1), 0);
        due("years(30)", who.years(30), 0);
        due("no number was drawn", who.seed(0), 0);
        due("judge(1, 0)", who.judge(1, 0), 0);
        due("judge(4, 0)", who.judge(4, 0), 0);
        due("dawn", who.dawn(), 0);
    }

    /** "THE TEXT is bytes": at first there is none, so that it is only not at its end. */
    static void p01_theTextIsEmptyAtFirst() {
        FullMoonWho who = new FullMoonWho();
        due("bytes", who.count(0), 0);
        due("fault", who.fault(), 0);
        due("wipe", who.wipe(), 0);
        due("village", who.village(), STATE);
    }

    /** "THE NIGHT is 0 at first", "SIGHTS (.. none at first)", "THE SEED, a long; 0 at first"; no acts, nothing kept. */
    static void p01_nothingHasBeenDoneAtFirst() {
        FullMoonWho who = new FullMoonWho();
        due("night", who.count(3), 0);
        due("acts", who.count(7), 0);
        due("undo", who.undo(), STATE);
        due("sights", who.count(8), 0);
        due("unsee", who.unsee(), 0);
        due("again(0)", who.again(0), STATE);
        due("again(1)", who.again(1), STATE);
        due("seed", who.seed(9), 0);
    }

    // ---- promise 2

    /** "n bytes (1 to 8)": one byte is the least. */
    static void p02_oneByte() {
        FullMoonWho who = new FullMoonWho();
        due("write(1)", who.write(1, 'V'), 1);
        due("fault", who.fault(), NONE);
    }

    /** "n bytes (1 to 8)": eight bytes are the most. */
    static void p02_eightBytes() {
        FullMoonWho who = new FullMoonWho();
        due("write(8): VH91P01K", who.write(8, 0x564839315030314BL), 8);
        due("the eighth byte is the fault", who.fault(), 7);
        Check.rewrite(who, "V");
        due("write(8) behind one", who.write(8, 0x4839314832314832L), 9);
        due("fault", who.fault(), 9);
    }

    /** "n bytes (1 to 8)", "OUTSIDE": one below and one above, and the least and the greatest of an int. */
    static void p02_outside() {
        for (int n : not(1, 8)) {
            changesNothing("write(" + n + ")", FullMoonWho::new, who -> who.write(n, 'V'), OUTSIDE);
            changesNothing("write(" + n + ")", () -> of(PAIR), who -> who.write(n, 'H'), OUTSIDE);
            refused("write(" + n + ")", who -> who.write(n, '0'), OUTSIDE);
        }
    }

    /** "of v, the lowest n, the highest of these first": for each n from 1 to 8. */
    static void p02_theLowestBytesTheHighestFirst() {
        String text = "VH91H22K";
        for (int n = 1; n <= 8; n++) {
            long v = -1;
            for (int i = 0; i < n; i++) {
                v = v << 8 | text.charAt(i);
            }
            FullMoonWho who = new FullMoonWho();
            due("write(" + n + ")", who.write(n, v), n);
            due("as the text " + text.substring(0, n), who.fault(), Check.faultOf(text.substring(0, n)));
            who.wipe();
            who.write(n, v ^ (n < 8 ? -1L << 8 * n : 0));
            due("higher bytes don't count, n " + n, who.fault(), Check.faultOf(text.substring(0, n)));
        }
        FullMoonWho who = new FullMoonWho();
        who.write(7, 0xFFL << 56 | 0x56483931483232L);
        due("two houses", who.village(), 20);
        due("sheep of the first one", who.house(0, 0), 9);
        due("bolt of the second one", who.house(1, 1), 2);
    }

    /** "n bytes of v": the least and the greatest of a long, and -1, are bytes, too (no VILLAGE has these). */
    static void p02_leastAndGreatestLong() {
        for (long v : new long[] {Long.MIN_VALUE, Long.MAX_VALUE, -1, 0}) {
            FullMoonWho who = new FullMoonWho();
            due("write(8, " + v + ")", who.write(8, v), 8);
            due("fault", who.fault(), 0);
            Check.rewrite(who, "V");
            due("write(1, " + v + ")", who.write(1, v), 2);
            due("fault behind V", who.fault(), 1);
        }
    }

    /** "THE TEXT is bytes (96 at most)": it can be filled to the last byte, by each n. */
    static void p02_filledToTheLastByte() {
        for (int n = 1; n <= 8; n++) {
            int write = n;
            due("write(" + n + ") to 96", textOf("V", 96 - n).write(n, 0), 96);
            changesNothing("write(" + n + ") to 97", () -> textOf("V", 97 - write), who -> who.write(write, 0), FULL);
        }
    }

    /** "FULL: it would be longer than 96 (nothing comes).": not even as much as there would be room for. */
    static void p02_fullNothingComes() {
        FullMoonWho who = textOf("V", 90);
        due("write(7)", who.write(7, 0), FULL);
        due("how long", who.count(0), 90);
        due("write(6)", who.write(6, 0), 96);
        for (int n = 1; n <= 8; n++) {
            due("write(" + n + ")", who.write(n, -1), FULL);
        }
        due("how long", who.count(0), 96);
    }

    /** "FULL": the last byte of a village of 96 bytes stays as it was. */
    static void p02_fullVillageStays() {
        FullMoonWho who = new FullMoonWho();
        Check.rewrite(who, LONGEST);
        due("write(1)", who.write(1, 'X'), FULL);
        due("fault", who.fault(), NONE);
        due("village", who.village(), 46);
    }

    /** "REFUSALS, of several the first that a call names": OUTSIDE ahead of FULL. */
    static void p02_outsideAheadOfFull() {
        for (int n : not(1, 8)) {
            due("write(" + n + ") where all is full", textOf("V", 96).write(n, 0), OUTSIDE);
        }
    }

    /** "FULL": what is wiped leaves room again. */
    static void p02_roomAgainBehindWipe() {
        FullMoonWho who = textOf("V", 96);
        due("wipe", who.wipe(), 96);
        due("write(8)", who.write(8, 0x5648303050303150L), 8);
        due("fault", who.fault(), 8);
        due("write(2)", who.write(2, 0x3030), 10);
        due("village", who.village(), 12);
    }

    // ---- promise 3

    /** "THE TEXT is empty: how long it was.": an empty one. */
    static void p03_emptyText() {
        FullMoonWho who = new FullMoonWho();
        due("new", who.wipe(), 0);
        who.write(1, 'V');
        due("one byte", who.wipe(), 1);
        due("empty again", who.wipe(), 0);
        due("bytes", who.count(0), 0);
    }

    /** "THE TEXT is empty: how long it was.": one of the greatest length. */
    static void p03_fullText() {
        FullMoonWho who = textOf("V", 96);
        due("wipe", who.wipe(), 96);
        due("bytes", who.count(0), 0);
        due("fault", who.fault(), 0);
        due("village", who.village(), STATE);
    }

    /** "THE TEXT is empty": what was in it doesn't come back behind a shorter one. */
    static void p03_nothingIsLeftOfALongerText() {
        FullMoonWho who = new FullMoonWho();
        Check.rewrite(who, ALL);
        who.wipe();
        who.write(1, 'V');
        due("fault", who.fault(), NONE);
        due("village", who.village(), 0);
        Check.rewrite(who, "VH00H");
        due("a shorter text ends where it ends", who.fault(), 5);
    }

    /** "THE TEXT is empty": THE VILLAGE is what it was. */
    static void p03_theVillageStays() {
        FullMoonWho who = some();
        who.wipe();
        due("houses", who.count(1), 4);
        due("people", who.count(2), 6);
        due("night", who.count(3), 1);
        due("kept", who.again(0), 1);
    }

    // ---- promise 4

    /** "its length, if it is only not at its end": no text. */
    static void p04_emptyText() {
        fault("", 0);
    }

    /** "A VILLAGE is a TEXT: V, then PARTS, none or more": none; "NONE: none". */
    static void p04_noParts() {
        fault("V", NONE);
    }

    /** "V": what is next to it, and the least and the greatest byte, are none. */
    static void p04_noV() {
        for (char c : new char[] {'U', 'W', 'v', 0, 'V' + 128, 255, 'H', '0'}) {
            fault(String.valueOf(c), 0);
            fault(c + "H00", 0);
        }
    }

    /** "V, then PARTS": a second V is none, and no byte but H, R, P, K begins one. */
    static void p04_noSuchPart() {
        for (char c = 0; c < 256; c++) {
            boolean part = c == 'H' || c == 'R' || c == 'P' || c == 'K';
            // One path and one pair of kin can be told still.
            fault("VH00H00H00R010P00P00P00K01" + c, part ? 27 : 26);
        }
        fault("VV", 1);
    }

    /** "the first byte by which THE TEXT can be no VILLAGE, whatever came behind it": what comes behind doesn't count. */
    static void p04_theFirstOfSeveral() {
        fault("VX", 1);
        fault("VXH00", 1);
        fault("VXX", 1);
        fault("VH03", 3);
        fault("VH03H03H", 3);
        fault("VH0:P9", 3);
        fault("XV", 0);
    }

    /** "a HOUSE (4 at most ..)": four are, the letter of a fifth is a fault, with figures behind it or not. */
    static void p04_fourHouses() {
        fault("VH00H00H00H00", NONE);
        fault("VH00H00H00H00H", 13);
        fault("VH00H00H00H00H00", 13);
        fault("VH00H00H00P00P10P20H00H", 22);
    }

    /** "with n SHEEP (0 to 9)": the least, the greatest, and what is next to the figures. */
    static void p04_sheep() {
        fault("VH00", NONE);
        fault("VH90", NONE);
        for (char c : new char[] {'/', ':', 0, '0' + 128, 255, 'H'}) {
            fault("VH" + c, 2);
            fault("VH" + c + "0", 2);
        }
    }

    /** "BOLT b: 0 open, 1 BOLTED .., 2 BARRED": no 3, and none below 0. */
    static void p04_boltOfAHouse() {
        for (int b = 0; b <= 2; b++) {
            fault("VH9" + b, NONE);
        }
        for (char c : new char[] {'3', '9', '/', ':', 0, '0' + 128, 255}) {
            fault("VH0" + c, 3);
        }
    }

    /** "a PATH between HOUSES a and b (.. told ahead ..)": the greatest that is told, and one above it. */
    static void p04_pathOfHousesToldAhead() {
        for (int houses = 2; houses <= 4; houses++) {
            String text = "V" + "H00".repeat(houses);
            int last = houses - 1;
            fault(text + "R0" + last + "0", NONE);
            fault(text + "R" + last + "00", NONE);
            fault(text + "R0" + houses + "0", text.length() + 2);
            fault(text + "R" + houses + "00", text.length() + 1);
            fault(text + "R" + houses + "00H00", text.length() + 1);
            for (char c : new char[] {'/', ':', '9', 0, '0' + 128, 255}) {
                fault(text + "R" + c, text.length() + 1);
                fault(text + "R0" + c, text.length() + 2);
            }
        }
    }

    /** "a PATH between HOUSES a and b (.. told ahead ..)": with none or one told, its letter is a fault. */
    static void p04_pathWithoutTwoHouses() {
        fault("VR", 1);
        fault("VR010", 1);
        fault("VRH00H00", 1);
        fault("VH00R", 4);
        fault("VH00R010", 4);
    }

    /** "HOUSES a and b (unlike ..)". */
    static void p04_pathToItself() {
        for (int h = 0; h < 4; h++) {
            fault("VH00H00H00H00R" + h + h, 15);
            fault("VH00H00H00H00R" + h + h + "0", 15);
        }
    }

    /** "k: 0, or 1 (by a WELL)". */
    static void p04_pathByAWellOrNot() {
        fault("VH00H00R010", NONE);
        fault("VH00H00R011", NONE);
        for (char c : new char[] {'2', '9', '/', ':', 0, '0' + 128, 255}) {
            fault("VH00H00R01" + c, 10);
        }
    }

    /** "HOUSES a and b (.. no two twice)": as told, turned around, by a well or not. */
    static void p04_noPathTwice() {
        String text = "VH00H00H00R010";
        fault(text + "R01", 16);
        fault(text + "R10", 16);
        fault(text + "R011", 16);
        fault(text + "R101", 16);
        fault(text + "R020R20", 20);
        fault(text + "R020R12", 21);
        fault(text + "R020R120", NONE);
    }

    /** "no two twice": where all are told, the letter of one more is a fault; one more house makes room. */
    static void p04_allPaths() {
        fault("VH00H00R010R", 11);
        fault("VH00H00R010R010", 11);
        fault("VH00H00R010H00R", 15);
        fault("VH00H00R010H00R120", NONE);
        fault("VH00H00H00R010R120R020R", 22);
        String six = "VH00H00H00H00R010R020R030R120R130R230";
        fault(six, NONE);
        fault(six + "R", 37);
        fault(six + "R010", 37);
    }

    /** "no two twice": a house that has a path to each other one is no first house of one more. */
    static void p04_allPathsOfOneHouse() {
        fault("VH00H00H00H00R010R020R030R0", 26);
        fault("VH00H00H00H00R010R020R030R10", 27);
        fault("VH00H00H00H00R010R020R030R1", 27);
        fault("VH00H00H00H00R010R020R030R120R130R1", 34);
        fault("VH00H00H00H00R010R020R030R120R130R2", 35);
        fault("VH00H00H00H00R010R020R030R120R130R23", 36);
    }

    /** "a PERSON (6 at most, likewise)": six are, the letter of a seventh is a fault. */
    static void p04_sixPeople() {
        fault("VH00P00P00P00P00P00P00", NONE);
        fault("VH00P00P00P00P00P00P00P", 22);
        fault("VH00P00P00P00P00P00P00P00", 22);
        fault("VH00P00P00P00P00P00P00H00P", 25);
    }

    /** "of HOUSE h (told ahead)": none is told; the greatest that is, and one above it. */
    static void p04_personOfAHouseToldAhead() {
        fault("VP", 1);
        fault("VP00", 1);
        fault("VPH00", 1);
        for (int houses = 1; houses <= 4; houses++) {
            String text = "V" + "H00".repeat(houses);
            fault(text + "P" + (houses - 1) + "0", NONE);
            fault(text + "P" + houses, text.length() + 1);
            fault(text + "P" + houses + "0H00", text.length() + 1);
            for (char c : new char[] {'/', ':', '9', 0, '0' + 128, 255}) {
                fault(text + "P" + c, text.length() + 1);
            }
        }
    }

    /** "w: 0, or 1 (a WOLF)". */
    static void p04_wolfOrNot() {
        fault("VH00P00", NONE);
        fault("VH00P01", NONE);
        for (char c : new char[] {'2', '9', '/', ':', 0, '0' + 128, 255}) {
            fault("VH00P0" + c, 6);
        }
    }

    /** "PERSONS i and j (.. told ahead ..)": the greatest that is told, and one above it. */
    static void p04_kinToldAhead() {
        for (int people = 2; people <= 6; people++) {
            String text = "VH00" + "P00".repeat(people);
            int last = people - 1;
            fault(text + "K0" + last, NONE);
            fault(text + "K" + last + "0", NONE);
            fault(text + "K0" + people, text.length() + 2);
            fault(text + "K" + people + "0", text.length() + 1);
            fault(text + "K" + people + "0P00", text.length() + 1);
            for (char c : new char[] {'/', ':', '9', 0, '0' + 128, 255}) {
                fault(text + "K" + c, text.length() + 1);
                fault(text + "K0" + c, text.length() + 2);
            }
        }
    }

    /** "PERSONS i and j (.. told ahead ..)": with none or one told, its letter is a fault. */
    static void p04_kinWithoutTwoPeople() {
        fault("VK", 1);
        fault("VH00K", 4);
        fault("VH00P00K", 7);
        fault("VH00P00K01", 7);
        fault("VH00P00KP00", 7);
    }

    /** "PERSONS i and j (unlike ..)". */
    static void p04_kinOfItself() {
        for (int p = 0; p < 6; p++) {
            fault("VH00P00P00P00P00P00P00K" + p + p, 24);
        }
    }

    /** "no two twice, in whichever order". */
    static void p04_noKinTwice() {
        fault("VH00P00P00P00K01K01", 18);
        fault("VH00P00P00P00K01K10", 18);
        fault("VH00P00P00P00K20K02", 18);
        fault("VH00P00P00P00K20K21", NONE);
    }

    /** "no two twice": where all are told, the letter of one more is a fault; one more person makes room. */
    static void p04_allKin() {
        fault("VH00P00P00K01K", 13);
        fault("VH00P00P00K01K01", 13);
        fault("VH00P00P00K01P00K", 17);
        fault("VH00P00P00K01P00K12", NONE);
        String all = "VH00P00P00P00P00P00P00K01K02K03K04K05K12K13K14K15K23K24K25K34K35K45";
        fault(all, NONE);
        fault(all + "K", 67);
        fault(all + "K01", 67);
        fault(all + "H00", NONE);
    }

    /** "no two twice": a person that is kin of each other one is no first one of one more. */
    static void p04_allKinOfOne() {
        fault("VH00P00P00P00K01K02K0", 20);
        fault("VH00P00P00P00K01K02K1", 21);
        fault("VH00P00P00P00P00P00P00K05K15K25K35K45K5", 38);
        fault("VH00P00P00P00P00P00P00K05K15K25K35K45K4", 39);
        fault("VH00P00P00P00P00P00P00K05K15K25K35K45K45", 39);
    }

    /** "its length, if it is only not at its end": each part, broken off behind each byte. */
    static void p04_notAtItsEnd() {
        String text = "VH12H00R011P01P10K01";
        boolean[] ends = new boolean[text.length() + 1];
        for (int end : new int[] {1, 4, 7, 11, 14, 17, 20}) {
            ends[end] = true;
        }
        for (int length = 0; length <= text.length(); length++) {
            fault(text.substring(0, length), ends[length] ? NONE : length);
        }
    }

    /** "THE TEXT is bytes (96 at most)": a village of just 96 is one. */
    static void p04_villageOf96() {
        due("how long", LONGEST.length(), 96);
        fault(LONGEST, NONE);
    }

    /** "(its length set aside)": a text of 96 that could only be ended by more bytes has its fault behind its last. */
    static void p04_lengthSetAside() {
        due("how long", CUT.length(), 96);
        fault(CUT, 96);
        fault(CUT.substring(0, 95), 95);
        fault(CUT.substring(0, 94) + "KX", 95);
    }

    /** "the first byte ..": the last one of 96. */
    static void p04_lastByteOf96() {
        fault(LONGEST.substring(0, 95) + "6", 95);
        fault(LONGEST.substring(0, 95) + "4", 95);
        fault(LONGEST.substring(0, 95) + "3", 95);
        fault(LONGEST.substring(0, 95), 95);
    }

    /** "FAULT; NONE.": asking changes nothing. */
    static void p04_askingChangesNothing() {
        changesNothing("fault()", Edges::some, FullMoonWho::fault, 50);
        changesNothing("fault()", Edges::full, FullMoonWho::fault, 50);
        changesNothing("fault()", () -> of(PAIR), FullMoonWho::fault, NONE);
    }

    // ---- promise 5

    /** "STATE: a FAULT.": no text; one that has not ended; a wrong byte; nothing has changed. */
    static void p05_refused() {
        changesNothing("no text", FullMoonWho::new, FullMoonWho::village, STATE);
        refused("not at its end", FullMoonWho::village, STATE);
        for (String text : new String[] {"", "X", "VH", "VH0", "VH03", "VH00P0", "VH00H00H00H00H00", CUT}) {
            changesNothing("village of " + text, () -> {
                FullMoonWho who = some();
                Check.rewrite(who, text);
                return who;
            }, FullMoonWho::village, STATE);
        }
    }

    /** "10 times HOUSES, and PEOPLE": the least. */
    static void p05_noHousesNobody() {
        FullMoonWho who = some();
        Check.rewrite(who, "V");
        due("village", who.village(), 0);
        due("sights stay", who.unsee(), 3);
        for (int what = 1; what <= 10; what++) {
            due("count(" + what + ")", who.count(what), 0);
        }
        due("house(0, 0)", who.house(0, 0), UNKNOWN);
        due("person(0, 0)", who.person(0, 0), UNKNOWN);
    }

    /** "10 times HOUSES, and PEOPLE": the most. */
    static void p05_allHousesAllPeople() {
        FullMoonWho who = new FullMoonWho();
        Check.rewrite(who, LONGEST);
        due("village", who.village(), 46);
        due("houses", who.count(1), 4);
        due("people", who.count(2), 6);
        due("paths", who.count(9), 5);
        for (int p = 0; p < 6; p++) {
            due("kin of " + p, who.person(p, 6), 63 & ~(1 << p));
        }
        due("all six paths", of(ALL).count(9), 6);
    }

    /** "THE TEXT (that stays as it is)". */
    static void p05_theTextStays() {
        FullMoonWho who = of(PAIR);
        due("bytes", who.count(0), PAIR.length());
        due("fault", who.fault(), NONE);
        due("and again", who.village(), 22);
        due("one byte more", who.write(1, 'H'), PAIR.length() + 1);
    }

    /** "NIGHT 0, THE ROW of ACTS is empty": also behind many acts. */
    static void p05_nightAndActsAreNone() {
        FullMoonWho who = full();
        Check.rewrite(who, PAIR);
        due("village", who.village(), 22);
        due("night", who.count(3), 0);
        due("acts", who.count(7), 0);
        due("undo", who.undo(), STATE);
        due("who is there", who.count(5), 3);
        due("wolves", who.count(4), 1);
        due("nobody is out", who.person(0, 4), 0);
        due("nobody is bitten", who.person(1, 2), 0);
        due("nobody bit it", who.person(1, 5), NONE);
        due("no tracks", who.house(1, 2), 0);
    }

    /** "THE TEXT .. is THE VILLAGE": all as it is told, whatever was done to the one ahead of it. */
    static void p05_nothingIsLeftOfTheVillageAhead() {
        FullMoonWho who = of("VH90H00H00H92R011R121R231R031R021R131P01P11P21P31P01P11K01K23");
        who.bolt(3, 0);
        int[] to = {2, 2, 3, 0, 1, 0};
        for (int p = 0; p < 6; p++) {
            who.visit(p, to[p]);
        }
        who.dawn();
        Check.rewrite(who, "VH00H10H00H00R010R020R030P01P01P01P10P20P30");
        who.village();
        who.visit(0, 2);
        who.visit(1, 3);
        who.visit(2, 1);
        for (int p = 0; p < 6; p++) {
            who.hang(p);
        }
        for (int h = 0; h < 4; h++) {
            who.bolt(h, 2);
        }
        Check.rewrite(who, ALL);
        due("village", who.village(), 46);
        due("as of a new object", Look.of(who).equals(Look.of(of(ALL))) ? 1 : 0, 1);
    }

    /** "what was kept is gone": of both slots. */
    static void p05_whatWasKeptIsGone() {
        FullMoonWho who = some();
        Check.rewrite(who, PAIR);
        who.village();
        due("again(0)", who.again(0), STATE);
        due("again(1)", who.again(1), STATE);
        due("keep(1)", who.keep(1), 0);
        due("again(0) still", who.again(0), STATE);
        due("again(1)", who.again(1), 0);
    }

    /** "SIGHTS, THE SEED stay". */
    static void p05_sightsAndSeedStay() {
        FullMoonWho who = full();
        Check.rewrite(who, "V");
        due("village", who.village(), 0);
        due("sights", who.count(8), 6);
        Check.rewrite(who, PAIR);
        due("village", who.village(), 22);
        due("FULL still", who.spoon(0, true), FULL);
        due("seed", who.seed(0), 77);
        due("unsee", who.unsee(), 6);
    }
}
