/** Promises 10 to 15: visit, dawn, hang, bolt, undo, judge. */
final class ActsTest {
    private static final Check check = new Check("ActsTest");
    private static final int UNKNOWN = FullMoonWho.UNKNOWN, OUTSIDE = FullMoonWho.OUTSIDE;
    private static final int STATE = FullMoonWho.STATE, NONE = FullMoonWho.NONE;

    public static void main(String[] args) {
        visit();
        visitIsRefused();
        dawn();
        hang();
        bolt();
        undo();
        undoOfEachKind();
        judge();
        check.end();
    }

    private static void visit() {
        FullMoonWho who = Check.villageOf("VH00H10R010P01P01P01P10P10");
        check.due("10: a sheep", who.visit(0, 1), NONE);
        check.due("10: it is eaten", who.house(1, 0), 0);
        check.due("10: nobody is bitten", who.person(3, 2), 0);
        check.due("10: out", who.person(0, 4), 1);
        check.due("10: a bite", who.visit(1, 1), 3);
        check.due("10: the next bite", who.visit(2, 1), 4);
        check.due("10: tracks", who.house(1, 2), 3);
        check.due("10: acts", who.count(7), 3);
        who.dawn();
        check.due("10: only wolves are there", who.visit(0, 1), NONE);
        check.due("10: out all the same", who.person(0, 4), 1);
        check.due("10: a track all the same", who.house(1, 2), 1);
        check.due("10: the bitten one goes", who.visit(3, 0), NONE);
    }

    private static void visitIsRefused() {
        FullMoonWho who = Check.villageOf("VH00H00H01R010R020P01P10");
        check.due("10: UNKNOWN person", who.visit(2, 1), UNKNOWN);
        check.due("10: UNKNOWN person -1", who.visit(-1, 1), UNKNOWN);
        check.due("10: UNKNOWN house", who.visit(0, 3), UNKNOWN);
        check.due("10: UNKNOWN house -1", who.visit(0, -1), UNKNOWN);
        check.due("10: no wolf", who.visit(1, 0), STATE);
        check.due("10: its own house", who.visit(0, 0), STATE);
        check.due("10: bolted", who.visit(0, 2), STATE);
        check.due("10: no act so far", who.count(7), 0);
        who.visit(0, 1);
        check.due("10: out", who.visit(0, 1), STATE);
        check.due("10: one track", who.house(1, 2), 1);
        check.due("10: one act", who.count(7), 1);
    }

    private static void dawn() {
        FullMoonWho who = Check.villageOf("VH00H00R010P01P01P10P10");
        check.due("11: nobody new", who.dawn(), 0);
        check.due("11: night 1", who.count(3), 1);
        who.visit(0, 1);
        who.visit(1, 1);
        who.hang(3);
        check.due("11: two new, a hanged one among them", who.dawn(), 12);
        check.due("11: a hanged wolf", who.person(3, 1), 1);
        check.due("11: night 2", who.count(3), 2);
        check.due("11: nobody is out", who.person(0, 4), 0);
        check.due("11: no tracks", who.house(1, 2), 0);
        check.due("11: nobody new any more", who.dawn(), 0);
        check.due("11: an act each", who.count(7), 6);
    }

    private static void hang() {
        FullMoonWho who = Check.villageOf("VH00H00R010P01P10");
        check.due("12: UNKNOWN 2", who.hang(2), UNKNOWN);
        check.due("12: UNKNOWN -1", who.hang(-1), UNKNOWN);
        who.visit(0, 1);
        check.due("12: one that is bitten is no wolf yet", who.hang(1), 0);
        check.due("12: a wolf", who.hang(0), 1);
        check.due("12: hanged already", who.hang(0), STATE);
        check.due("12: nobody is there", who.count(5), 0);
        check.due("12: three acts", who.count(7), 3);
    }

    private static void bolt() {
        FullMoonWho who = Check.villageOf("VH00H01");
        check.due("13: UNKNOWN 2", who.bolt(2, 1), UNKNOWN);
        check.due("13: UNKNOWN -1", who.bolt(-1, 1), UNKNOWN);
        check.due("13: UNKNOWN comes first", who.bolt(2, 3), UNKNOWN);
        check.due("13: OUTSIDE 3", who.bolt(0, 3), OUTSIDE);
        check.due("13: OUTSIDE -1", who.bolt(0, -1), OUTSIDE);
        check.due("13: it is open", who.bolt(0, 0), STATE);
        check.due("13: it is bolted", who.bolt(1, 1), STATE);
        check.due("13: no act so far", who.count(7), 0);
        check.due("13: open to barred", who.bolt(0, 2), 0);
        check.due("13: it is barred", who.house(0, 1), 2);
        check.due("13: it is so", who.bolt(0, 2), STATE);
        check.due("13: barred to bolted", who.bolt(0, 1), 2);
        check.due("13: it is bolted", who.house(0, 1), 1);
        check.due("13: bolted to open", who.bolt(0, 0), 1);
        check.due("13: it is open", who.house(0, 1), 0);
        check.due("13: bolted to barred", who.bolt(1, 2), 1);
        check.due("13: barred to open", who.bolt(1, 0), 2);
        check.due("13: all are open", who.count(10), 3);
    }

    private static void undo() {
        FullMoonWho who = Check.villageOf("VH00");
        check.due("14: nothing", who.undo(), STATE);
        for (int i = 1; i <= 20; i++) {
            who.dawn();
            check.due("14: acts", who.count(7), Math.min(i, 16));
        }
        for (int left = 15; left >= 0; left--) {
            check.due("14: left", who.undo(), left);
            check.due("14: the night", who.count(3), 4 + left);
        }
        check.due("14: the first ones are forgotten", who.undo(), STATE);
        check.due("14: nothing changes", who.count(3), 4);
        check.due("14: on from there", who.dawn(), 0);
        check.due("14: night 5", who.count(3), 5);
        check.due("14: and back", who.undo(), 0);
    }

    private static void undoOfEachKind() {
        FullMoonWho who = Check.villageOf("VH00H10R010P01P10P01");
        who.visit(0, 1);
        who.visit(2, 1);
        who.hang(1);
        who.dawn();
        who.bolt(1, 2);
        check.due("14: a bolt", who.undo(), 4);
        check.due("14: open", who.house(1, 1), 0);
        check.due("14: a dawn", who.undo(), 3);
        check.due("14: night 0", who.count(3), 0);
        check.due("14: a wolf no more", who.person(1, 1), 0);
        check.due("14: bitten again", who.person(1, 2), 1);
        check.due("14: out again", who.person(0, 4), 1);
        check.due("14: tracks again", who.house(1, 2), 2);
        check.due("14: a hanging", who.undo(), 2);
        check.due("14: it is there", who.count(5), 7);
        check.due("14: a bite", who.undo(), 1);
        check.due("14: not bitten", who.person(1, 2), 0);
        check.due("14: nobody bit it", who.person(1, 5), NONE);
        check.due("14: not out", who.person(2, 4), 0);
        check.due("14: one track", who.house(1, 2), 1);
        check.due("14: a sheep", who.undo(), 0);
        check.due("14: it is back", who.house(1, 0), 1);
        check.due("14: none is left", who.undo(), STATE);
    }

    private static void judge() {
        FullMoonWho who = Check.villageOf("VH00H00H00R010R020R120P01P10P21P01");
        check.due("15: OUTSIDE n 0", who.judge(0, 0), OUTSIDE);
        check.due("15: OUTSIDE n 5", who.judge(5, 1), OUTSIDE);
        check.due("15: OUTSIDE n -1", who.judge(-1, 1), OUTSIDE);
        check.due("15: OUTSIDE row -1", who.judge(1, -1), OUTSIDE);
        check.due("15: OUTSIDE three figures", who.judge(1, 100), OUTSIDE);
        check.due("15: two figures", who.judge(1, 99), 0);
        check.due("15: OUTSIDE nine figures", who.judge(4, 100000000), OUTSIDE);
        check.due("15: eight figures", who.judge(4, 99999999), 0);
        check.due("15: OUTSIDE five figures", who.judge(2, 10000), OUTSIDE);
        check.due("15: one may", who.judge(1, 1), NONE);
        check.due("15: no wolf", who.judge(1, 10), 0);
        check.due("15: its own house", who.judge(1, 0), 0);
        check.due("15: three may", who.judge(3, 12032), NONE);
        check.due("15: twice in a night", who.judge(3, 12002), 2);
        check.due("15: no such person", who.judge(3, 14132), 1);
        check.due("15: no such house", who.judge(3, 12332), 1);
        check.due("15: no such house in the end", who.judge(3, 12133), 2);
        check.due("15: leading zeros", who.judge(4, 1), 0);
        check.due("15: the bitten one goes no more in this night", who.judge(2, 110), 1);
        check.due("15: nothing changes", who.count(7), 0);
        check.due("15: nobody is bitten", who.person(1, 2), 0);
        who.visit(0, 1);
        check.due("15: it is out already", who.judge(1, 2), 0);
        who.bolt(0, 2);
        check.due("15: barred", who.judge(2, 2132), 1);
    }
}
