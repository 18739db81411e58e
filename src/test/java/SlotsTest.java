/** Promises 37 to 39: keep, again, count. */
final class SlotsTest {
    private static final Check check = new Check("SlotsTest");
    private static final int UNKNOWN = FullMoonWho.UNKNOWN, OUTSIDE = FullMoonWho.OUTSIDE, STATE = FullMoonWho.STATE;

    public static void main(String[] args) {
        refused();
        goneOnFrom();
        whatIsNotKept();
        count();
        check.end();
    }

    private static void refused() {
        FullMoonWho who = new FullMoonWho();
        check.due("37: UNKNOWN 2", who.keep(2), UNKNOWN);
        check.due("37: UNKNOWN -1", who.keep(-1), UNKNOWN);
        check.due("38: UNKNOWN 2", who.again(2), UNKNOWN);
        check.due("38: UNKNOWN -1", who.again(-1), UNKNOWN);
        check.due("38: none was kept in 0", who.again(0), STATE);
        check.due("38: none was kept in 1", who.again(1), STATE);
        check.due("37: keep", who.keep(1), 0);
        check.due("38: none was kept in 0", who.again(0), STATE);
        check.due("38: again", who.again(1), 0);
    }

    private static void goneOnFrom() {
        FullMoonWho who = Check.villageOf("VH00H10R010P01P10P01");
        check.due("37: night 0", who.keep(0), 0);
        who.visit(0, 1);
        who.dawn();
        who.visit(0, 1);
        who.visit(2, 1);
        who.hang(2);
        who.bolt(0, 2);
        check.due("37: night 1", who.keep(1), 1);
        check.due("37: acts stay", who.count(7), 6);
        who.dawn();
        who.bolt(0, 1);
        check.due("38: night 1", who.again(1), 1);
        check.due("38: no acts", who.count(7), 0);
        check.due("38: nothing to undo", who.undo(), STATE);
        check.due("38: night", who.count(3), 1);
        check.due("38: sheep", who.house(1, 0), 0);
        check.due("38: bolt", who.house(0, 1), 2);
        check.due("38: tracks", who.house(1, 2), 2);
        check.due("38: bitten", who.person(1, 2), 1);
        check.due("38: who bit it", who.person(1, 5), 0);
        check.due("38: no wolf yet", who.person(1, 1), 0);
        check.due("38: hanged", who.person(2, 3), 1);
        check.due("38: out", who.person(0, 4), 1);
        check.due("38: night 0", who.again(0), 0);
        check.due("38: sheep", who.house(1, 0), 1);
        check.due("38: bolt", who.house(0, 1), 0);
        check.due("38: all are there", who.count(5), 7);
        check.due("38: nobody bit it", who.person(1, 5), FullMoonWho.NONE);
        who.dawn();
        check.due("38: and once more", who.again(1), 1);
        check.due("37: another one in its place", who.keep(0), 1);
        check.due("38: is there", who.again(0), 1);
    }

    private static void whatIsNotKept() {
        FullMoonWho who = Check.villageOf("VH00H00R010P01P10");
        who.keep(0);
        who.seed(5);
        who.spoon(0, true);
        Check.rewrite(who, "VH0");
        who.again(0);
        check.due("38: the seed stays", who.seed(0), 5);
        check.due("38: sights stay", who.count(8), 1);
        check.due("38: the text stays", who.count(0), 3);
        check.due("5: a fault takes nothing away", who.village(), STATE);
        check.due("38: kept still", who.again(0), 0);
    }

    private static void count() {
        FullMoonWho who = Check.villageOf("VH90H01H32H50R010R121P01P00P21");
        long[] due = {30, 4, 3, 0, 5, 7, 17, 0, 0, 2, 9};
        for (int what = 0; what < due.length; what++) {
            check.due("39: count(" + what + ")", who.count(what), due[what]);
        }
        check.due("39: OUTSIDE 11", who.count(11), OUTSIDE);
        check.due("39: OUTSIDE -1", who.count(-1), OUTSIDE);
        who.write(2, 0);
        who.hang(0);
        who.bolt(1, 0);
        who.visit(2, 1);
        who.bolt(2, 0);
        who.visit(2, 1);
        who.dawn();
        who.spoon(1, true);
        long[] then = {32, 4, 3, 1, 4, 6, 17, 5, 1, 2, 15};
        for (int what = 0; what < then.length; what++) {
            check.due("39: then count(" + what + ")", who.count(what), then[what]);
        }
        who.visit(2, 1);
        FullMoonWho eaten = Check.villageOf("VH90H10R010P01");
        eaten.visit(0, 1);
        check.due("39: sheep that are left", eaten.count(6), 9);
    }
}
