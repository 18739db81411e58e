import java.util.Random;

/** All promises: runs of calls by fixed seeds, each answer against that of the model. */
final class RandomRunsTest {
    private static final Check check = new Check("RandomRunsTest");
    private static final int RUNS = 600, CALLS = 150;

    private final Random random;
    private final FullMoonWho who = new FullMoonWho();
    private final Model model = new Model();
    private final int run;

    private RandomRunsTest(int run) {
        this.run = run;
        random = new Random(run);
    }

    public static void main(String[] args) {
        for (int run = 0; run < RUNS; run++) {
            RandomRunsTest test = new RandomRunsTest(run);
            test.tellVillage();
            for (int i = 0; i < CALLS; i++) {
                test.oneCall(i);
            }
            test.everything();
        }
        for (int run = 0; run < RUNS; run++) {
            new RandomRunsTest(RUNS + run).faults();
        }
        check.end();
    }

    private void due(String call, long got, long want) {
        check.due("run " + run + ": " + call, got, want);
    }

    /** Mostly a number below the bound, at times one that is not. */
    private int below(int bound) {
        return random.nextInt(30) == 0 ? new int[] {-1, bound, bound + 1, Integer.MIN_VALUE, Integer.MAX_VALUE}
                [random.nextInt(5)] : random.nextInt(bound);
    }

    private int pick(int n) {
        return random.nextInt(n);
    }

    private String villageText() {
        StringBuilder text = new StringBuilder("V");
        int houses = 1 + pick(4);
        int sheepMost = pick(3) == 0 ? 3 : 1;
        for (int h = 0; h < houses; h++) {
            int bolt = Math.max(0, pick(12) - 9);
            text.append('H').append(pick(sheepMost)).append(bolt);
        }
        for (int a = 0; a < houses; a++) {
            for (int b = a + 1; b < houses; b++) {
                if (pick(4) > 0) {
                    boolean turned = pick(2) == 0;
                    text.append('R').append(turned ? b : a).append(turned ? a : b).append(pick(3) / 2);
                }
            }
        }
        int people = 1 + pick(6);
        int wolvesOf = 2 + pick(3);
        for (int p = 0; p < people; p++) {
            text.append('P').append(pick(houses)).append(pick(wolvesOf) == 0 ? 1 : 0);
        }
        for (int i = 0; i < people; i++) {
            for (int j = i + 1; j < people; j++) {
                if (pick(8) == 0 && text.length() < 93) {
                    text.append('K').append(j).append(i);
                }
            }
        }
        return text.toString();
    }

    private void writeBoth(String text) {
        due("wipe()", who.wipe(), model.wipe());
        for (int from = 0; from < text.length(); ) {
            int n = Math.min(text.length() - from, 1 + pick(8));
            long v = random.nextLong();
            for (int i = 0; i < n; i++) {
                v = v << 8 | text.charAt(from + i);
            }
            due("write", who.write(n, v), model.write(n, v));
            from += n;
        }
    }

    private void tellVillage() {
        String text = villageText();
        writeBoth(text);
        due("village() of " + text, who.village(), model.village());
        long seed = random.nextLong();
        due("seed", who.seed(seed), model.seed(seed));
    }

    private void faults() {
        StringBuilder text = new StringBuilder(villageText());
        for (int i = pick(3); i > 0; i--) {
            int at = pick(text.length());
            char other = "0123456789HRPKV\u00ff".charAt(pick(16));
            int kind = pick(4);
            if (kind == 0) {
                text.setCharAt(at, other);
            } else if (kind == 1) {
                text.deleteCharAt(at);
            } else if (kind == 2) {
                text.append(other);
            } else {
                text.setLength(at);
            }
            if (text.isEmpty()) {
                text.append('V');
            }
        }
        String told = text.length() > 96 ? text.substring(0, 96) : text.toString();
        writeBoth(told);
        due("fault() of " + told, who.fault(), model.fault());
        due("village() of " + told, who.village(), model.village());
        for (int what = 0; what <= 10; what++) {
            due("count(" + what + ")", who.count(what), model.count(what));
        }
    }

    private void oneCall(int i) {
        String at = " (call " + i + ")";
        int p = below(6);
        int h = below(4);
        boolean is = random.nextBoolean();
        switch (pick(40)) {
            case 0, 1, 2, 3, 4, 5 -> due("visit(" + p + ", " + h + ")" + at, who.visit(p, h), model.visit(p, h));
            case 6, 7, 8 -> due("dawn()" + at, who.dawn(), model.dawn());
            case 9 -> due("hang(" + p + ")" + at, who.hang(p), model.hang(p));
            case 10, 11, 12 -> {
                int b = below(3);
                due("bolt(" + h + ", " + b + ")" + at, who.bolt(h, b), model.bolt(h, b));
            }
            case 13, 14, 15 -> due("undo()" + at, who.undo(), model.undo());
            case 16, 17 -> {
                int k = pick(3) == 0 ? below(7) : pick(2);
                int moon = below(3);
                due("track(" + moon + ", " + h + ", " + k + ")" + at, who.track(moon, h, k), model.track(moon, h, k));
            }
            case 18, 19 -> {
                int moon = below(3);
                due("hungry(" + moon + ", " + p + ", " + is + ")" + at, who.hungry(moon, p, is), model.hungry(moon, p, is));
            }
            case 20 -> due("spoon(" + p + ", " + is + ")" + at, who.spoon(p, is), model.spoon(p, is));
            case 21 -> due("unsee()" + at, who.unsee(), model.unsee());
            case 22 -> {
                int slot = below(2);
                due("keep(" + slot + ")" + at, who.keep(slot), model.keep(slot));
            }
            case 23 -> {
                int slot = below(2);
                due("again(" + slot + ")" + at, who.again(slot), model.again(slot));
            }
            case 24 -> {
                int m = 1 + below(30);
                due("years(" + m + ")" + at, who.years(m), model.years(m));
            }
            case 25 -> {
                if (pick(4) == 0) {
                    tellVillage();
                }
            }
            default -> ask(p, h, is, at);
        }
    }

    private void ask(int p, int h, boolean is, String at) {
        switch (pick(24)) {
            case 0 -> {
                int n = 1 + below(4);
                int row = pick(5) == 0 ? random.nextInt() : judged(n);
                due("judge(" + n + ", " + row + ")" + at, who.judge(n, row), model.judge(n, row));
            }
            case 1 -> due("may(" + p + ")" + at, who.may(p), model.may(p));
            case 2 -> due("prey(" + p + ", " + h + ")" + at, who.prey(p, h), model.prey(p, h));
            case 3 -> due("first(" + p + ")" + at, who.first(p), model.first(p));
            case 4 -> due("line(" + p + ")" + at, who.line(p), model.line(p));
            case 5 -> due("brood(" + p + ")" + at, who.brood(p), model.brood(p));
            case 6 -> due("tales()" + at, who.tales(), model.tales());
            case 7 -> due("sets()" + at, who.sets(), model.sets());
            case 8 -> {
                int i = pick(2) == 0 ? pick(66) - 1 : pick(6);
                due("setAt(" + i + ")" + at, who.setAt(i), model.setAt(i));
            }
            case 9 -> {
                int what = below(3);
                due("sure(" + what + ")" + at, who.sure(what), model.sure(what));
            }
            case 10, 11 -> due("likely(" + p + ", " + is + ")" + at, who.likely(p, is), model.likely(p, is));
            case 12 -> due("toTest()" + at, who.toTest(), model.toTest());
            case 13, 14 -> due("tests()" + at, who.tests(), model.tests());
            case 15 -> due("vote(" + p + ")" + at, who.vote(p), model.vote(p));
            case 16 -> due("hanged()" + at, who.hanged(), model.hanged());
            case 17 -> due("safe()" + at, who.safe(), model.safe());
            case 18, 19 -> due("locked()" + at, who.locked(), model.locked());
            case 20, 21 -> {
                int n = 1 + below(2);
                due("danger(" + p + ", " + n + ", " + is + ")" + at, who.danger(p, n, is), model.danger(p, n, is));
            }
            case 22 -> {
                int what = below(6);
                due("house(" + h + ", " + what + ")" + at, who.house(h, what), model.house(h, what));
            }
            default -> {
                int what = below(11);
                due("count(" + what + ")" + at, who.count(what), model.count(what));
                due("person(" + p + ", " + what + ")" + at, who.person(p, what), model.person(p, what));
            }
        }
    }

    private int judged(int n) {
        int row = 0;
        for (int i = 0; i < Math.min(n, 4); i++) {
            row = 100 * row + 10 * pick(6) + pick(4);
        }
        return row;
    }

    /** All that can be asked of how things are. */
    private void everything() {
        due("tales() in the end", who.tales(), model.tales());
        due("sets() in the end", who.sets(), model.sets());
        due("tests() in the end", who.tests(), model.tests());
        due("toTest() in the end", who.toTest(), model.toTest());
        due("hanged() in the end", who.hanged(), model.hanged());
        due("safe() in the end", who.safe(), model.safe());
        due("locked() in the end", who.locked(), model.locked());
        for (int p = 0; p < 6; p++) {
            due("danger in the end", who.danger(p, 2, true), model.danger(p, 2, true));
            due("danger in the end", who.danger(p, 2, false), model.danger(p, 2, false));
            due("likely in the end", who.likely(p, true), model.likely(p, true));
            due("vote in the end", who.vote(p), model.vote(p));
            for (int what = 0; what <= 6; what++) {
                due("person in the end", who.person(p, what), model.person(p, what));
            }
        }
        for (int h = 0; h < 4; h++) {
            for (int what = 0; what <= 5; what++) {
                due("house in the end", who.house(h, what), model.house(h, what));
            }
        }
        for (int what = 0; what <= 10; what++) {
            due("count in the end", who.count(what), model.count(what));
        }
        while (model.count(7) > 0) {
            due("undo() in the end", who.undo(), model.undo());
            due("bitten in the end", who.person(0, 2), model.person(0, 2));
            due("sheep in the end", who.count(6), model.count(6));
        }
        long seed = random.nextLong();
        due("seed in the end", who.seed(seed), model.seed(seed));
    }
}
