/** The edges of promises 19 to 29 (sights, tales, sets, spoons) and of the terms that they take up. */
final class EdgesSightsTest extends Edges {
    private static final String TWO = "VH00H00R010P00P00";

    public static void main(String[] args) throws IllegalAccessException {
        runAll(EdgesSightsTest.class);
    }

    /** No tale fits: a spoon was taken, and was not. */
    private static FullMoonWho noTale(String text) {
        FullMoonWho who = of(text);
        who.spoon(0, true);
        who.spoon(0, false);
        return who;
    }

    private static FullMoonWho allHanged(String text) {
        FullMoonWho who = of(text);
        for (int p = 0; p < who.count(2); p++) {
            who.hang(p);
        }
        return who;
    }

    // ---- promise 19

    /** "UNKNOWN: house". */
    static void p19_unknown() {
        for (int h : not(0, 3)) {
            refused("track(0, " + h + ", 0)", who -> who.track(0, h, 0), UNKNOWN);
        }
        for (int h : not(0, 0)) {
            changesNothing("track(0, " + h + ", 0) of one", () -> of("VH00"), who -> who.track(0, h, 0), UNKNOWN);
        }
    }

    /** "MOON m (0 to 2)", "OUTSIDE: moon". */
    static void p19_outsideMoon() {
        for (int moon : not(0, 2)) {
            refused("track(" + moon + ", 0, 0)", who -> who.track(moon, 0, 0), OUTSIDE);
        }
    }

    /** "OUTSIDE: .. k (0 to 6)". */
    static void p19_outsideK() {
        for (int k : not(0, 6)) {
            refused("track(0, 0, " + k + ")", who -> who.track(0, 0, k), OUTSIDE);
        }
    }

    /** "UNKNOWN: house; OUTSIDE: moon, k; FULL": UNKNOWN, then OUTSIDE, then FULL. */
    static void p19_whichIsFirst() {
        due("all three", full().track(3, 4, 7), UNKNOWN);
        due("UNKNOWN and FULL", full().track(0, 4, 0), UNKNOWN);
        due("OUTSIDE and FULL, moon", full().track(-1, 0, 0), OUTSIDE);
        due("OUTSIDE and FULL, k", full().track(0, 0, -1), OUTSIDE);
        due("UNKNOWN and OUTSIDE", some().track(-1, -1, -1), UNKNOWN);
    }

    /** "FULL." */
    static void p19_full() {
        changesNothing("track(0, 0, 0)", Edges::full, who -> who.track(0, 0, 0), FULL);
        changesNothing("track(2, 3, 6)", Edges::full, who -> who.track(2, 3, 6), FULL);
    }

    /** "TRACKS were seen: how many SIGHTS there are.": the least and the greatest of moon, house, k; six of them. */
    static void p19_leastAndGreatest() {
        FullMoonWho who = of(ALL);
        due("track(0, 0, 0)", who.track(0, 0, 0), 1);
        due("track(2, 0, 0)", who.track(2, 0, 0), 2);
        due("track(0, 3, 0)", who.track(0, 3, 0), 3);
        due("track(0, 0, 6)", who.track(0, 0, 6), 4);
        due("track(2, 3, 6)", who.track(2, 3, 6), 5);
        due("the same again", who.track(2, 3, 6), 6);
        due("FULL", who.track(2, 3, 6), FULL);
        due("sights", who.count(8), 6);
    }

    // ---- promise 20

    /** "UNKNOWN: person". */
    static void p20_unknown() {
        for (int p : not(0, 5)) {
            refused("hungry(0, " + p + ")", who -> who.hungry(0, p, true), UNKNOWN);
            refused("not hungry(0, " + p + ")", who -> who.hungry(0, p, false), UNKNOWN);
        }
    }

    /** "OUTSIDE: moon". */
    static void p20_outside() {
        for (int moon : not(0, 2)) {
            refused("hungry(" + moon + ", 0)", who -> who.hungry(moon, 0, true), OUTSIDE);
            refused("not hungry(" + moon + ", 5)", who -> who.hungry(moon, 5, false), OUTSIDE);
        }
    }

    /** "UNKNOWN: person; OUTSIDE: moon; FULL": UNKNOWN, then OUTSIDE, then FULL. */
    static void p20_whichIsFirst() {
        due("all three", full().hungry(3, 6, true), UNKNOWN);
        due("UNKNOWN and FULL", full().hungry(0, 6, true), UNKNOWN);
        due("OUTSIDE and FULL", full().hungry(3, 0, true), OUTSIDE);
        due("UNKNOWN and OUTSIDE", some().hungry(-1, -1, true), UNKNOWN);
    }

    /** "FULL." */
    static void p20_full() {
        changesNothing("hungry(0, 0)", Edges::full, who -> who.hungry(0, 0, true), FULL);
        changesNothing("not hungry(2, 5)", Edges::full, who -> who.hungry(2, 5, false), FULL);
    }

    /** "HUNGRY, or not: how many SIGHTS there are.": the least and the greatest of moon and person; six of them. */
    static void p20_leastAndGreatest() {
        FullMoonWho who = of(ALL);
        due("hungry(0, 0)", who.hungry(0, 0, true), 1);
        due("hungry(2, 0)", who.hungry(2, 0, true), 2);
        due("hungry(0, 5)", who.hungry(0, 5, false), 3);
        due("hungry(2, 5)", who.hungry(2, 5, true), 4);
        due("the same again", who.hungry(2, 5, true), 5);
        due("the other way", who.hungry(2, 5, false), 6);
        due("FULL", who.hungry(2, 5, false), FULL);
        due("sights", who.count(8), 6);
    }

    // ---- promise 21

    /** "UNKNOWN". */
    static void p21_unknown() {
        for (int p : not(0, 5)) {
            refused("spoon(" + p + ") taken", who -> who.spoon(p, true), UNKNOWN);
            refused("spoon(" + p + ") not taken", who -> who.spoon(p, false), UNKNOWN);
        }
    }

    /** "UNKNOWN; FULL.": of both UNKNOWN. */
    static void p21_unknownAheadOfFull() {
        due("above", full().spoon(6, true), UNKNOWN);
        due("below", full().spoon(-1, true), UNKNOWN);
    }

    /** "FULL." */
    static void p21_full() {
        changesNothing("spoon(0) taken", Edges::full, who -> who.spoon(0, true), FULL);
        changesNothing("spoon(5) not taken", Edges::full, who -> who.spoon(5, false), FULL);
    }

    /** "how many SIGHTS there are": from one to six, of one and the same, and of each person. */
    static void p21_sixSights() {
        FullMoonWho same = of(SIX);
        FullMoonWho each = of(SIX);
        for (int i = 0; i < 6; i++) {
            due("the same", same.spoon(0, true), i + 1);
            due("each", each.spoon(i, i % 2 == 0), i + 1);
        }
        due("one more of the same", same.spoon(0, true), FULL);
        due("one more of each", each.spoon(0, true), FULL);
        due("half of the sets", same.sets(), 32);
        due("one set", each.sets(), 1);
        due("it is known", each.setAt(0), 42);
    }

    /** "of HANGED ones": their sights are taken (there is such a PERSON), though nothing is looked at. */
    static void p21_ofHangedOnes() {
        FullMoonWho who = of(TWO);
        who.hang(1);
        due("spoon", who.spoon(1, true), 1);
        due("hungry", who.hungry(0, 1, false), 2);
        due("nothing is looked at", who.tales(), 9);
    }

    // ---- promise 22

    /** "There are no SIGHTS: how many there were.": none. */
    static void p22_none() {
        changesNothing("new", FullMoonWho::new, FullMoonWho::unsee, 0);
        FullMoonWho who = some();
        due("three", who.unsee(), 3);
        due("none any more", who.unsee(), 0);
    }

    /** "There are no SIGHTS: how many there were.": six; there is room for six again, nothing is left of the others. */
    static void p22_six() {
        FullMoonWho who = full();
        due("six", who.unsee(), 6);
        due("none", who.count(8), 0);
        for (int i = 1; i <= 6; i++) {
            due("again", who.hungry(2, 5, true), i);
        }
        due("FULL again", who.hungry(2, 5, true), FULL);
        who.unsee();
        FullMoonWho other = full();
        other.unsee();
        due("as with none at all", who.tales(), other.tales());
        FullMoonWho two = noTale(TWO);
        due("no tale", two.tales(), 0);
        two.unsee();
        due("all tales", two.tales(), 81);
    }

    // ---- promise 23

    /** "How many TALES FIT.": that of nobody is one; nobody is told, or all are HANGED. */
    static void p23_nobody() {
        due("new", new FullMoonWho().tales(), 1);
        due("houses alone", of("VH00H00R010").tales(), 1);
        due("all are hanged", allHanged(ALL).tales(), 1);
    }

    /** "How many TALES FIT.": none. */
    static void p23_none() {
        due("no tale", noTale(ALL).tales(), 0);
        FullMoonWho who = of("VH00H00R010");
        who.track(0, 1, 1);
        due("tracks of nobody", who.tales(), 0);
        due("no sets", who.sets(), 0);
    }

    /** "How many TALES FIT.": the most, more than an int holds. */
    static void p23_most() {
        due("65 times itself, six times", of(ALL).tales(), 75_418_890_625L);
    }

    /** "or nowhere; the others nowhere": who can't go anywhere can be of the set all the same. */
    static void p23_whoCanGoNowhere() {
        due("no path", of("VH00P00").tales(), 2);
        due("six without a path", of("VH00P00P00P00P00P00P00").tales(), 64);
        due("own house barred", of("VH02H00R010P00").tales(), 2);
        due("own house bolted", of("VH01H00R010P00").tales(), 9);
        due("the other one bolted", of("VH00H01R010P00").tales(), 2);
        due("the other one barred", of("VH00H02R010P00").tales(), 2);
    }

    /** "there were just k TRACKS at a HOUSE": each k from 0 to 6, of six that can come; in each moon. */
    static void p23_eachNumberOfTracks() {
        long[] due = {15_625, 75_000, 150_000, 160_000, 96_000, 30_720, 4_096};
        for (int moon = 0; moon < 3; moon++) {
            for (int k = 0; k <= 6; k++) {
                FullMoonWho who = of(SIX);
                who.track(moon, 1, k);
                due("tracks " + k, who.tales(), due[k]);
            }
        }
    }

    /** "just k TRACKS (0 to 6)": as many as can come, and one more. */
    static void p23_oneTrackTooMany() {
        for (int people = 0; people <= 5; people++) {
            String text = "VH00H00R010" + "P00".repeat(people);
            FullMoonWho all = of(text);
            all.track(0, 1, people);
            due("all of " + people, all.tales(), 1L << 2 * people);
            FullMoonWho more = of(text);
            more.track(0, 1, people + 1);
            due("more than " + people, more.tales(), 0);
        }
        FullMoonWho six = of(SIX);
        for (int moon = 0; moon < 3; moon++) {
            six.track(moon, 1, 6);
        }
        due("all six in all moons", six.tales(), 1);
    }

    /** "at a HOUSE": the first and the last one. */
    static void p23_tracksAtTheFirstAndTheLastHouse() {
        for (int h = 0; h < 4; h++) {
            FullMoonWho who = of("VH00H00H00H00R010R020R030R120R130R230P00P10P20P30");
            who.track(1, h, 3);
            // The three others went there, the one of that house did as it liked: 65 ways with the empty set's.
            due("three of three at " + h, who.tales(), 16L * 16 * 16 * 65);
            due("the three others", who.sure(0), 15 & ~(1 << h));
            who.unsee();
            who.track(1, h, 4);
            due("four of three at " + h, who.tales(), 0);
        }
    }

    /** "It FITS, if all SIGHTS are so by it.": two that can't both be so; two of other moons or houses can. */
    static void p23_sightsThatDoNotGoTogether() {
        int[][] pairs = {{0, 1}, {1, 0}, {0, 6}, {6, 0}, {1, 2}, {5, 6}};
        for (int[] pair : pairs) {
            FullMoonWho who = of(SIX);
            who.track(2, 1, pair[0]);
            who.track(2, 1, pair[1]);
            due("tracks " + pair[0] + " and " + pair[1], who.tales(), 0);
            due("no sets", who.sets(), 0);
            FullMoonWho moons = of(SIX);
            moons.track(0, 1, pair[0]);
            moons.track(2, 1, pair[1]);
            due("in two moons they go together", moons.tales() > 0 ? 1 : 0, 1);
        }
        FullMoonWho hunger = of(SIX);
        hunger.hungry(2, 5, true);
        hunger.hungry(2, 5, false);
        due("hungry and not", hunger.tales(), 0);
        FullMoonWho spoon = of(SIX);
        spoon.spoon(5, true);
        spoon.hungry(0, 5, false);
        due("spoon taken, not hungry", spoon.tales(), 0);
        FullMoonWho house = of(SIX);
        house.track(0, 0, 0);
        house.track(0, 1, 6);
        due("two houses", house.tales(), 4096);
    }

    /** "TRACKS are those that came by PATHS without a WELL": none by a well; nobody comes to a bolted house, or its own. */
    static void p23_noTracksCanBe() {
        for (String text : new String[] {"VH00H00R011P00P00", "VH00H01R010P00P00", "VH00H02R010P00P00",
            "VH02H00R010P00P00", "VH00H00P00P00", "VH00H00R010P10P10"}) {
            FullMoonWho none = of(text);
            long all = none.tales();
            none.track(1, 1, 0);
            due("none, " + text, none.tales(), all);
            FullMoonWho one = of(text);
            one.track(1, 1, 1);
            due("one, " + text, one.tales(), 0);
        }
    }

    /** "By it one is HUNGRY, if it went nowhere": in each moon; one that can go nowhere is. */
    static void p23_hungryOrNot() {
        for (int moon = 0; moon < 3; moon++) {
            FullMoonWho hungry = of(TWO);
            hungry.hungry(moon, 0, true);
            due("hungry", hungry.tales(), 5 * 9);
            FullMoonWho not = of(TWO);
            not.hungry(moon, 1, false);
            due("not hungry", not.tales(), 4 * 9);
            FullMoonWho stays = of("VH00P00");
            stays.hungry(moon, 0, true);
            due("it went nowhere", stays.tales(), 2);
            stays.hungry(moon, 0, false);
            due("it can't be else", stays.tales(), 0);
        }
    }

    /** "nothing is looked at": of a HOUSE that there is not any more; it is again, when there is one. */
    static void p23_noSuchHouseAnyMore() {
        FullMoonWho who = of("VH00H00R010P00");
        who.track(0, 1, 2);
        due("looked at", who.tales(), 0);
        Check.rewrite(who, "VH00P00");
        who.village();
        due("one house is left", who.tales(), 2);
        Check.rewrite(who, "V");
        who.village();
        due("none is left", who.tales(), 1);
        Check.rewrite(who, "VH00H00R010P00P00");
        who.village();
        due("looked at again", who.tales(), 16);
    }

    /** "nothing is looked at": of PEOPLE that there are not any more. */
    static void p23_noSuchPersonAnyMore() {
        FullMoonWho who = of(TWO);
        who.spoon(1, true);
        who.hungry(2, 1, false);
        due("looked at", who.tales(), 0);
        Check.rewrite(who, "VH00H00R010P00");
        who.village();
        due("one person is left", who.tales(), 9);
        Check.rewrite(who, TWO);
        who.village();
        due("looked at again", who.tales(), 0);
    }

    /** "nothing is looked at": of HANGED ones; it is again, when that is undone or gone on from ahead of it. */
    static void p23_hangedOnesAreNotLookedAt() {
        FullMoonWho who = noTale(TWO);
        who.keep(0);
        who.hang(0);
        due("hanged", who.tales(), 9);
        who.undo();
        due("undone", who.tales(), 0);
        who.hang(0);
        who.again(0);
        due("gone on from ahead of it", who.tales(), 0);
    }

    /** "(BOLTS as they are now; SHEEP, bites, who is a WOLF do not count.)" */
    static void p23_boltsAsTheyAreNow() {
        FullMoonWho who = of("VH90H90R010P01P00");
        due("open", who.tales(), 81);
        who.bolt(1, 1);
        due("bolted", who.tales(), 4);
        who.bolt(1, 0);
        due("open again", who.tales(), 81);
        who.bolt(0, 2);
        due("barred", who.tales(), 4);
        who.undo();
        who.visit(0, 1);
        due("out", who.tales(), 81);
        who.dawn();
        due("by the next night", who.tales(), 81);
    }

    // ---- promise 24

    /** "How many SETS there are.": none, one (the empty one), 64. */
    static void p24_noneOneAll() {
        due("none", noTale(ALL).sets(), 0);
        due("new", new FullMoonWho().sets(), 1);
        due("all hanged", allHanged(ALL).sets(), 1);
        due("all", of(ALL).sets(), 64);
        due("all, though none can go anywhere", of("VH00P00P00P00P00P00P00").sets(), 64);
    }

    /** "those sets of which some TALE FITS": one tale is enough. */
    static void p24_oneTaleIsEnough() {
        FullMoonWho who = of(SIX);
        for (int moon = 0; moon < 3; moon++) {
            who.track(moon, 1, 6);
        }
        due("one tale", who.tales(), 1);
        due("one set", who.sets(), 1);
        due("setAt(0)", who.setAt(0), 63);
        for (int what = 0; what <= 2; what++) {
            due("sure(" + what + ")", who.sure(what), what == 1 ? 0 : 63);
        }
        // One tale for each set, as nobody can go anywhere.
        FullMoonWho each = of("VH00P00P00P00P00P00P00");
        each.spoon(0, true);
        each.spoon(1, false);
        due("sure", each.sure(0), 2);
        due("suspects", each.sure(2), 62);
        due("toTest", each.toTest(), 2);
        due("vote", each.vote(0), 1);
    }

    /** "HANGED ones never": each one that is hanged halves them. */
    static void p24_hangedOnesNever() {
        FullMoonWho who = of(ALL);
        for (int p = 5; p >= 0; p--) {
            who.hang(p);
            due("sets", who.sets(), 1 << p);
        }
    }

    // ---- promise 25

    /** "The i-th of THE SETS (from 0), as bits": the first and the last of 64, in order. */
    static void p25_firstAndLast() {
        FullMoonWho who = of(ALL);
        for (int i = 0; i < 64; i++) {
            due("setAt", who.setAt(i), i);
        }
    }

    /** "NONE: there are not so many.": one more than there are, and the greatest int; also below 0. */
    static void p25_notSoMany() {
        for (int i : new int[] {64, 65, 96, 128, 320, 65_600, Integer.MAX_VALUE, -1, -64, Integer.MIN_VALUE}) {
            due("setAt(" + i + ") of 64", of(ALL).setAt(i), NONE);
        }
        FullMoonWho half = of(ALL);
        half.spoon(0, true);
        due("setAt(31) of 32", half.setAt(31), 62);
        due("setAt(32) of 32", half.setAt(32), NONE);
        due("setAt(0) of the empty one", new FullMoonWho().setAt(0), 0);
        due("setAt(1) of the empty one", new FullMoonWho().setAt(1), NONE);
        due("setAt(-1) of the empty one", new FullMoonWho().setAt(-1), NONE);
        due("setAt(0) of none", noTale(ALL).setAt(0), NONE);
    }

    /** "(In order by their bits.)" */
    static void p25_inOrder() {
        FullMoonWho who = of(SIX);
        who.track(0, 1, 5);
        int[] due = {31, 47, 55, 59, 61, 62, 63};
        due("sets", who.sets(), due.length);
        for (int i = 0; i < due.length; i++) {
            due("setAt(" + i + ")", who.setAt(i), due[i]);
        }
        due("setAt(7)", who.setAt(7), NONE);
    }

    // ---- promise 26

    /** "OUTSIDE." (what is 0 to 2): also where there is no SET (NONE is no refusal). */
    static void p26_outside() {
        for (int what : not(0, 2)) {
            refused("sure(" + what + ")", who -> who.sure(what), OUTSIDE);
            changesNothing("no set", () -> noTale(ALL), who -> who.sure(what), OUTSIDE);
            due("new", new FullMoonWho().sure(what), OUTSIDE);
        }
    }

    /** "NONE: there is no SET." */
    static void p26_noSet() {
        for (int what = 0; what <= 2; what++) {
            due("sure(" + what + ")", noTale(ALL).sure(what), NONE);
        }
    }

    /** "Who is of all SETS (what = 0), of none, but there (1), of some (2)": nobody, as there is nobody. */
    static void p26_nobodyThere() {
        for (int what = 0; what <= 2; what++) {
            due("new, sure(" + what + ")", new FullMoonWho().sure(what), 0);
            due("all hanged, sure(" + what + ")", allHanged(ALL).sure(what), 0);
        }
    }

    /** "Who is of all SETS (what = 0)": all six; nobody. */
    static void p26_ofAllSets() {
        FullMoonWho who = of(SIX);
        due("nobody", who.sure(0), 0);
        due("of none", who.sure(1), 0);
        due("of some", who.sure(2), 63);
        who.track(0, 1, 6);
        due("all six", who.sure(0), 63);
        due("then of none", who.sure(1), 0);
        due("then of some", who.sure(2), 63);
    }

    /** "of none, but there (1)": all six; HANGED ones are not there. */
    static void p26_ofNoneButThere() {
        FullMoonWho who = of(SIX);
        for (int p = 0; p < 6; p++) {
            who.spoon(p, true);
        }
        due("all six", who.sure(1), 63);
        due("of all", who.sure(0), 0);
        due("of some", who.sure(2), 0);
        who.hang(5);
        who.hang(0);
        due("but there", who.sure(1), 30);
    }

    // ---- promise 27

    /** "UNKNOWN". */
    static void p27_unknown() {
        for (int p : not(0, 5)) {
            refused("likely(" + p + ") above", who -> who.likely(p, true), UNKNOWN);
            refused("likely(" + p + ") below", who -> who.likely(p, false), UNKNOWN);
        }
    }

    /** "UNKNOWN; STATE: no TALE FITS.": of both UNKNOWN. */
    static void p27_unknownAheadOfState() {
        for (int p : not(0, 5)) {
            due("likely(" + p + ")", noTale(ALL).likely(p, true), UNKNOWN);
            due("likely(" + p + ")", noTale(ALL).likely(p, false), UNKNOWN);
        }
    }

    /** "STATE: no TALE FITS.": of each person, above and below; of a HANGED one, too. */
    static void p27_noTaleFits() {
        for (int p = 0; p < 6; p++) {
            int person = p;
            changesNothing("above", () -> noTale(ALL), who -> who.likely(person, true), STATE);
            changesNothing("below", () -> noTale(ALL), who -> who.likely(person, false), STATE);
        }
        FullMoonWho who = noTale(TWO);
        who.hang(1);
        due("hanged", who.likely(1, true), STATE);
    }

    /** "TALES that FIT in which one is of the set, by all that FIT": none of them, all of them. */
    static void p27_noneAndAll() {
        FullMoonWho who = of(SIX);
        for (int p = 0; p < 6; p++) {
            likely(who, p, 8, 9);
        }
        who.track(0, 1, 6);
        for (int p = 0; p < 6; p++) {
            likely(who, p, 1, 1);
        }
        who.unsee();
        for (int p = 0; p < 6; p++) {
            who.spoon(p, true);
        }
        for (int p = 0; p < 6; p++) {
            likely(who, p, 0, 1);
        }
    }

    /** "(HANGED ones never)": all are hanged, one tale of nobody fits. */
    static void p27_hangedOnes() {
        FullMoonWho who = allHanged(ALL);
        for (int p = 0; p < 6; p++) {
            likely(who, p, 0, 1);
        }
    }

    // ---- promise 28

    /** "NONE: there is no SET, or nobody." */
    static void p28_none() {
        due("no set", noTale(ALL).toTest(), NONE);
        due("nobody", new FullMoonWho().toTest(), NONE);
        due("nobody in houses", of("VH00H00R010").toTest(), NONE);
        due("all hanged", allHanged(ALL).toTest(), NONE);
    }

    /** "the PERSON that is there ..; of like ones the least": only the last one is there; all are alike. */
    static void p28_theLeastThatIsThere() {
        FullMoonWho who = of(SIX);
        for (int p = 0; p < 5; p++) {
            due("the least", who.toTest(), p);
            who.hang(p);
        }
        due("the last one", who.toTest(), 5);
    }

    /** "of like ones the least": also where nothing is left to be known. */
    static void p28_oneSet() {
        FullMoonWho who = of(SIX);
        for (int p = 0; p < 6; p++) {
            who.spoon(p, p % 2 == 0);
        }
        due("one set", who.sets(), 1);
        due("the least", who.toTest(), 0);
        who.hang(0);
        due("the least that is there", who.toTest(), 1);
    }

    /** "whose SPOON leaves fewest SETS at worst": the last one of six is better than all ahead of it. */
    static void p28_theLastIsBest() {
        FullMoonWho who = of("VH00H00R010P00P00P00P00P00P10");
        who.track(0, 1, 4);
        // Of the sets of the others 6 are left (4 and 5 of 5), with and without the last one.
        due("sets", who.sets(), 12);
        due("the last one", who.toTest(), 5);
    }

    // ---- promise 29

    /** "NONE: there is no SET." */
    static void p29_noSet() {
        due("no set", noTale(ALL).tests(), NONE);
    }

    /** "by how many SPOONS at worst": none, where there is but one set. */
    static void p29_none() {
        due("new", new FullMoonWho().tests(), 0);
        due("all hanged", allHanged(ALL).tests(), 0);
        FullMoonWho who = of(SIX);
        who.track(0, 1, 6);
        due("all are known", who.tests(), 0);
    }

    /** "by how many SPOONS at worst": each from one to six, by how many people are there. */
    static void p29_asManyAsPeople() {
        for (int people = 1; people <= 6; people++) {
            due("of " + people, of("VH00" + "P00".repeat(people)).tests(), people);
        }
        FullMoonWho who = of(ALL);
        for (int p = 0; p < 6; p++) {
            who.hang(p);
            due("there are " + (5 - p), who.tests(), 5 - p);
        }
    }

    /** "at worst .. if that is done best": six for seven sets, three for four. */
    static void p29_fewSetsManySpoons() {
        FullMoonWho six = of(SIX);
        six.track(0, 1, 5);
        due("seven sets", six.sets(), 7);
        due("six spoons", six.tests(), 6);
        FullMoonWho three = of("VH00H00R010P00P00P00");
        three.track(0, 1, 2);
        due("four sets", three.sets(), 4);
        due("three spoons", three.tests(), 3);
    }
}
