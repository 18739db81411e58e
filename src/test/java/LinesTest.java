/** Promises 16 to 18: first, line, brood. */
final class LinesTest {
    private static final Check check = new Check("LinesTest");
    private static final int UNKNOWN = FullMoonWho.UNKNOWN;

    public static void main(String[] args) {
        FullMoonWho who = Check.villageOf("VH00H00R010P01P10P00P10P00P01");
        refused(who);
        for (int p = 0; p < 6; p++) {
            check.due("16: itself", who.first(p), p);
            check.due("17: no bites", who.line(p), 0);
            check.due("18: itself alone", who.brood(p), 1 << p);
        }
        who.visit(0, 1);
        check.due("16: on the night itself", who.first(1), 0);
        check.due("17: on the night itself", who.line(1), 1);
        check.due("18: on the night itself", who.brood(0), 3);
        who.dawn();
        who.visit(1, 0);
        who.visit(5, 1);
        who.dawn();
        who.visit(2, 1);
        who.visit(3, 0);
        check.due("16: of the second bite", who.first(2), 0);
        check.due("17: of the second bite", who.line(2), 2);
        check.due("16: of the other first one", who.first(4), 5);
        check.due("17: of the other first one", who.line(4), 2);
        check.due("18: of 0", who.brood(0), 7);
        check.due("18: of 5", who.brood(5), 56);
        check.due("18: of one that was bitten", who.brood(1), 0);
        who.hang(0);
        who.hang(1);
        check.due("16: hanged ones count", who.first(2), 0);
        check.due("17: hanged ones count", who.line(2), 2);
        check.due("18: hanged ones count", who.brood(0), 7);
        longestLine();
        check.end();
    }

    private static void refused(FullMoonWho who) {
        check.due("16: UNKNOWN 6", who.first(6), UNKNOWN);
        check.due("16: UNKNOWN -1", who.first(-1), UNKNOWN);
        check.due("17: UNKNOWN 6", who.line(6), UNKNOWN);
        check.due("17: UNKNOWN -1", who.line(-1), UNKNOWN);
        check.due("18: UNKNOWN 6", who.brood(6), UNKNOWN);
        check.due("18: UNKNOWN -1", who.brood(-1), UNKNOWN);
    }

    /** Each bites the next one. */
    private static void longestLine() {
        FullMoonWho who = Check.villageOf("VH00H00R010P01P10P00P10P00P10");
        for (int p = 0; p < 5; p++) {
            check.due("10: bites the next", who.visit(p, 1 - p % 2), p + 1);
            who.dawn();
        }
        for (int p = 0; p < 6; p++) {
            check.due("16: the first of all", who.first(p), 0);
            check.due("17: as many bites", who.line(p), p);
        }
        check.due("18: all", who.brood(0), 63);
    }
}
