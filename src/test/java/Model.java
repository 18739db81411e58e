import java.math.BigInteger;
import java.util.ArrayDeque;
import java.util.ArrayList;
import java.util.Arrays;
import java.util.Deque;
import java.util.HashMap;
import java.util.List;
import java.util.Map;
import java.util.TreeSet;

/** The document done over again by plain search, to be compared with; slow and wasteful. */
final class Model {
    private static final int UNKNOWN = -1, OUTSIDE = -2, STATE = -3, FULL = -4, NONE = -9;

    /** A village's fixed part and its night in one. */
    private static final class World {
        List<Integer> sheep = new ArrayList<>(), bolt = new ArrayList<>(), tracks = new ArrayList<>();
        List<Integer> home = new ArrayList<>(), biter = new ArrayList<>();
        TreeSet<String> paths = new TreeSet<>(), wells = new TreeSet<>(), kin = new TreeSet<>();
        TreeSet<Integer> wolves = new TreeSet<>(), bitten = new TreeSet<>();
        TreeSet<Integer> hanged = new TreeSet<>(), out = new TreeSet<>();
        int night = 0;

        World copy() {
            World w = new World();
            w.sheep.addAll(sheep);
            w.bolt.addAll(bolt);
            w.tracks.addAll(tracks);
            w.home.addAll(home);
            w.biter.addAll(biter);
            w.paths.addAll(paths);
            w.wells.addAll(wells);
            w.kin.addAll(kin);
            w.wolves.addAll(wolves);
            w.bitten.addAll(bitten);
            w.hanged.addAll(hanged);
            w.out.addAll(out);
            w.night = night;
            return w;
        }

        int houses() {
            return sheep.size();
        }

        int people() {
            return home.size();
        }

        boolean linked(TreeSet<String> links, int a, int b) {
            return links.contains(a + "-" + b) || links.contains(b + "-" + a);
        }

        boolean there(int p) {
            return !hanged.contains(p);
        }

        boolean reaches(int p, int h) {
            return bolt.get(home.get(p)) != 2 && linked(paths, home.get(p), h) && bolt.get(h) == 0;
        }

        boolean mayVisit(int p, int h) {
            return wolves.contains(p) && there(p) && !out.contains(p) && reaches(p, h);
        }

        int wouldBite(int p, int h) {
            if (sheep.get(h) > 0) {
                return NONE;
            }
            for (int q = 0; q < people(); q++) {
                if (home.get(q) == h && there(q) && !wolves.contains(q) && !bitten.contains(q) && !linked(kin, p, q)) {
                    return q;
                }
            }
            return NONE;
        }

        int goVisit(int p, int h) {
            int q = wouldBite(p, h);
            out.add(p);
            if (!linked(wells, home.get(p), h)) {
                tracks.set(h, tracks.get(h) + 1);
            }
            if (sheep.get(h) > 0) {
                sheep.set(h, sheep.get(h) - 1);
            } else if (q != NONE) {
                bitten.add(q);
                biter.set(q, p);
            }
            return q;
        }

        int becomeDay() {
            int fresh = bits(bitten);
            night++;
            wolves.addAll(bitten);
            bitten.clear();
            out.clear();
            for (int h = 0; h < houses(); h++) {
                tracks.set(h, 0);
            }
            return fresh;
        }

        String key() {
            return sheep + " " + wolves + " " + bitten + " " + out;
        }
    }

    private record Sight(char kind, int moon, int which, int value) { }

    private final StringBuilder text = new StringBuilder();
    private World now = new World();
    private final Deque<World> row = new ArrayDeque<>();
    private final World[] kept = new World[2];
    private final List<Sight> sights = new ArrayList<>();
    private long seed = 0;

    static int bits(Iterable<Integer> all) {
        int found = 0;
        for (int i : all) {
            found |= 1 << i;
        }
        return found;
    }

    // ---- the village

    int write(int n, long v) {
        if (n < 1 || n > 8) {
            return OUTSIDE;
        }
        if (text.length() + n > 96) {
            return FULL;
        }
        byte[] all = BigInteger.valueOf(v).toByteArray();
        byte[] eight = new byte[8];
        Arrays.fill(eight, (byte) (v < 0 ? -1 : 0));
        System.arraycopy(all, 0, eight, 8 - all.length, all.length);
        for (int i = 8 - n; i < 8; i++) {
            text.append((char) (eight[i] & 255));
        }
        return text.length();
    }

    int wipe() {
        int was = text.length();
        text.setLength(0);
        return was;
    }

    /** The village of a text; null: it is none. */
    private static World parse(String s) {
        if (s.isEmpty() || s.charAt(0) != 'V') {
            return null;
        }
        World w = new World();
        int at = 1;
        while (at < s.length()) {
            char c = s.charAt(at);
            int size = c == 'H' || c == 'P' || c == 'K' ? 3 : c == 'R' ? 4 : 0;
            if (size == 0 || at + size > s.length()) {
                return null;
            }
            int[] f = new int[4];
            for (int i = 1; i < size; i++) {
                f[i] = s.charAt(at + i) - '0';
                if (f[i] < 0 || f[i] > 9) {
                    return null;
                }
            }
            if (!addPart(w, c, f[1], f[2], f[3])) {
                return null;
            }
            at += size;
        }
        return w;
    }

    private static boolean addPart(World w, char c, int x, int y, int z) {
        if (c == 'H') {
            w.sheep.add(x);
            w.bolt.add(y);
            w.tracks.add(0);
            return w.houses() <= 4 && y <= 2;
        }
        if (c == 'P') {
            w.home.add(x);
            w.biter.add(NONE);
            if (y == 1) {
                w.wolves.add(w.people() - 1);
            }
            return w.people() <= 6 && x < w.houses() && y <= 1;
        }
        int all = c == 'R' ? w.houses() : w.people();
        TreeSet<String> links = c == 'R' ? w.paths : w.kin;
        if (x == y || x >= all || y >= all || z > 1 || w.linked(links, x, y)) {
            return false;
        }
        links.add(x + "-" + y);
        if (z == 1) {
            w.wells.add(x + "-" + y);
        }
        return true;
    }

    /** Whether some village begins with this: what is begun can be ended by three figures at most. */
    private static boolean canBecomeVillage(String s) {
        if (s.isEmpty() || parse(s) != null) {
            return true;
        }
        for (int n = 1, last = 10; n <= 3; n++, last *= 10) {
            for (int i = 0; i < last; i++) {
                if (parse(s + Integer.toString(last + i).substring(1)) != null) {
                    return true;
                }
            }
        }
        return false;
    }

    int fault() {
        String s = text.toString();
        for (int i = 0; i < s.length(); i++) {
            if (!canBecomeVillage(s.substring(0, i + 1))) {
                return i;
            }
        }
        return parse(s) == null ? s.length() : NONE;
    }

    int village() {
        World w = parse(text.toString());
        if (w == null) {
            return STATE;
        }
        now = w;
        row.clear();
        kept[0] = null;
        kept[1] = null;
        return 10 * w.houses() + w.people();
    }

    private boolean noHouse(int h) {
        return h < 0 || h >= now.houses();
    }

    private boolean noPerson(int p) {
        return p < 0 || p >= now.people();
    }

    int house(int h, int what) {
        if (noHouse(h)) {
            return UNKNOWN;
        }
        if (what < 0 || what > 5) {
            return OUTSIDE;
        }
        if (what < 3) {
            return what == 0 ? now.sheep.get(h) : what == 1 ? now.bolt.get(h) : now.tracks.get(h);
        }
        TreeSet<Integer> found = new TreeSet<>();
        for (int p = 0; p < now.people() && what == 3; p++) {
            if (now.home.get(p) == h) {
                found.add(p);
            }
        }
        for (int g = 0; g < now.houses() && what > 3; g++) {
            if (now.linked(what == 4 ? now.paths : now.wells, g, h)) {
                found.add(g);
            }
        }
        return bits(found);
    }

    int person(int p, int what) {
        if (noPerson(p)) {
            return UNKNOWN;
        }
        List<TreeSet<Integer>> flags = List.of(now.wolves, now.bitten, now.hanged, now.out);
        if (what >= 1 && what <= 4) {
            return flags.get(what - 1).contains(p) ? 1 : 0;
        }
        int kin = 0;
        for (int q = 0; q < now.people(); q++) {
            kin += now.linked(now.kin, p, q) ? 1 << q : 0;
        }
        return what == 0 ? now.home.get(p) : what == 5 ? now.biter.get(p) : what == 6 ? kin : OUTSIDE;
    }

    int may(int p) {
        return noPerson(p) ? UNKNOWN : bits(goals(now, p));
    }

    private static List<Integer> goals(World w, int p) {
        List<Integer> found = new ArrayList<>();
        for (int h = 0; h < w.houses(); h++) {
            if (w.mayVisit(p, h)) {
                found.add(h);
            }
        }
        return found;
    }

    int prey(int p, int h) {
        if (noPerson(p) || noHouse(h)) {
            return UNKNOWN;
        }
        return now.mayVisit(p, h) ? now.wouldBite(p, h) : STATE;
    }

    // ---- acts

    private void act() {
        row.addLast(now.copy());
        if (row.size() > 16) {
            row.removeFirst();
        }
    }

    int visit(int p, int h) {
        if (noPerson(p) || noHouse(h)) {
            return UNKNOWN;
        }
        if (!now.mayVisit(p, h)) {
            return STATE;
        }
        act();
        return now.goVisit(p, h);
    }

    int dawn() {
        act();
        return now.becomeDay();
    }

    int hang(int p) {
        if (noPerson(p)) {
            return UNKNOWN;
        }
        if (!now.there(p)) {
            return STATE;
        }
        act();
        now.hanged.add(p);
        return now.wolves.contains(p) ? 1 : 0;
    }

    int bolt(int h, int b) {
        if (noHouse(h)) {
            return UNKNOWN;
        }
        if (b < 0 || b > 2) {
            return OUTSIDE;
        }
        if (now.bolt.get(h) == b) {
            return STATE;
        }
        act();
        return now.bolt.set(h, b);
    }

    int undo() {
        if (row.isEmpty()) {
            return STATE;
        }
        now = row.removeLast();
        return row.size();
    }

    int judge(int n, int told) {
        if (n < 1 || n > 4 || told < 0) {
            return OUTSIDE;
        }
        String figures = Integer.toString(told);
        if (figures.length() > 2 * n) {
            return OUTSIDE;
        }
        figures = "0".repeat(2 * n - figures.length()) + figures;
        World w = now.copy();
        for (int i = 0; i < n; i++) {
            int p = figures.charAt(2 * i) - '0';
            int h = figures.charAt(2 * i + 1) - '0';
            if (p >= w.people() || h >= w.houses() || !w.mayVisit(p, h)) {
                return i;
            }
            w.goVisit(p, h);
        }
        return NONE;
    }

    // ---- lines

    int first(int p) {
        return noPerson(p) ? UNKNOWN : now.biter.get(p) == NONE ? p : first(now.biter.get(p));
    }

    int line(int p) {
        return noPerson(p) ? UNKNOWN : now.biter.get(p) == NONE ? 0 : 1 + line(now.biter.get(p));
    }

    int brood(int p) {
        if (noPerson(p)) {
            return UNKNOWN;
        }
        int found = 0;
        for (int q = 0; q < now.people(); q++) {
            found += first(q) == p ? 1 << q : 0;
        }
        return found;
    }

    // ---- sights

    private int see(Sight sight) {
        if (sights.size() == 6) {
            return FULL;
        }
        sights.add(sight);
        return sights.size();
    }

    int track(int moon, int h, int k) {
        if (noHouse(h)) {
            return UNKNOWN;
        }
        return moon < 0 || moon > 2 || k < 0 || k > 6 ? OUTSIDE : see(new Sight('t', moon, h, k));
    }

    int hungry(int moon, int p, boolean is) {
        if (noPerson(p)) {
            return UNKNOWN;
        }
        return moon < 0 || moon > 2 ? OUTSIDE : see(new Sight('h', moon, p, is ? 1 : 0));
    }

    int spoon(int p, boolean took) {
        return noPerson(p) ? UNKNOWN : see(new Sight('s', -1, p, took ? 1 : 0));
    }

    int unsee() {
        int were = sights.size();
        sights.clear();
        return were;
    }

    /** Whether a moon, in which each went to went[p] (-1: nowhere), is as it was seen. */
    private boolean moonFits(int moon, int[] went) {
        for (Sight sight : sights) {
            if (sight.moon != moon) {
                continue;
            }
            if (sight.kind == 'h' && sight.which < now.people() && now.there(sight.which)
                    && (went[sight.which] == -1) != (sight.value == 1)) {
                return false;
            }
            if (sight.kind == 't' && sight.which < now.houses()) {
                int tracks = 0;
                for (int p = 0; p < went.length; p++) {
                    if (went[p] == sight.which && !now.linked(now.wells, now.home.get(p), sight.which)) {
                        tracks++;
                    }
                }
                if (tracks != sight.value) {
                    return false;
                }
            }
        }
        return true;
    }

    private long moonWays(int moon, int set, int p, int[] went) {
        if (p == now.people()) {
            return moonFits(moon, went) ? 1 : 0;
        }
        went[p] = -1;
        long ways = moonWays(moon, set, p + 1, went);
        for (int h = 0; h < now.houses() && (set >> p & 1) == 1; h++) {
            if (now.reaches(p, h)) {
                went[p] = h;
                ways += moonWays(moon, set, p + 1, went);
            }
        }
        return ways;
    }

    /** Of each set how many tales fit. */
    private Map<Integer, Long> fits() {
        Map<Integer, Long> found = new HashMap<>();
        for (int set = 0; set < 1 << now.people(); set++) {
            boolean fit = (set & bits(now.hanged)) == 0;
            for (Sight sight : sights) {
                if (sight.kind == 's' && sight.which < now.people() && now.there(sight.which)) {
                    fit &= (set >> sight.which & 1) != sight.value;
                }
            }
            long ways = 1;
            for (int moon = 0; moon < 3 && fit; moon++) {
                ways *= moonWays(moon, set, 0, new int[now.people()]);
            }
            if (fit && ways > 0) {
                found.put(set, ways);
            }
        }
        return found;
    }

    private List<Integer> setRow() {
        return new ArrayList<>(new TreeSet<>(fits().keySet()));
    }

    long tales() {
        return fits().values().stream().mapToLong(Long::longValue).sum();
    }

    int sets() {
        return setRow().size();
    }

    int setAt(int i) {
        List<Integer> all = setRow();
        return i >= 0 && i < all.size() ? all.get(i) : NONE;
    }

    int sure(int what) {
        if (what < 0 || what > 2) {
            return OUTSIDE;
        }
        List<Integer> all = setRow();
        if (all.isEmpty()) {
            return NONE;
        }
        int found = 0;
        for (int p = 0; p < now.people(); p++) {
            int with = with(all, p).size();
            boolean is = what == 0 ? with == all.size() : what == 1 ? with == 0 && now.there(p) : with > 0;
            found += is ? 1 << p : 0;
        }
        return found;
    }

    private static List<Integer> with(List<Integer> all, int p) {
        return all.stream().filter(set -> (set >> p & 1) == 1).toList();
    }

    private static List<Integer> without(List<Integer> all, int p) {
        return all.stream().filter(set -> (set >> p & 1) == 0).toList();
    }

    long likely(int p, boolean upper) {
        if (noPerson(p)) {
            return UNKNOWN;
        }
        Map<Integer, Long> all = fits();
        if (all.isEmpty()) {
            return STATE;
        }
        long with = 0;
        long sum = 0;
        for (Map.Entry<Integer, Long> entry : all.entrySet()) {
            sum += entry.getValue();
            with += (entry.getKey() >> p & 1) * entry.getValue();
        }
        return part(BigInteger.valueOf(with), BigInteger.valueOf(sum), upper);
    }

    private static long part(BigInteger above, BigInteger below, boolean upper) {
        BigInteger divisor = above.gcd(below);
        return (upper ? above : below).divide(divisor).longValueExact();
    }

    int toTest() {
        List<Integer> all = setRow();
        int best = NONE;
        int fewest = Integer.MAX_VALUE;
        for (int p = 0; p < now.people() && !all.isEmpty(); p++) {
            int worst = Math.max(with(all, p).size(), without(all, p).size());
            if (now.there(p) && worst < fewest) {
                best = p;
                fewest = worst;
            }
        }
        return best;
    }

    int tests() {
        List<Integer> all = setRow();
        return all.isEmpty() ? NONE : spoonsFor(all, new HashMap<>());
    }

    private int spoonsFor(List<Integer> all, Map<List<Integer>, Integer> known) {
        if (all.size() <= 1) {
            return 0;
        }
        if (known.containsKey(all)) {
            return known.get(all);
        }
        int fewest = 99;
        for (int p = 0; p < now.people(); p++) {
            List<Integer> with = with(all, p);
            List<Integer> without = without(all, p);
            if (!with.isEmpty() && !without.isEmpty()) {
                fewest = Math.min(fewest, 1 + Math.max(spoonsFor(with, known), spoonsFor(without, known)));
            }
        }
        known.put(all, fewest);
        return fewest;
    }

    // ---- votes

    int vote(int p) {
        if (noPerson(p)) {
            return UNKNOWN;
        }
        return now.there(p) ? voteBy(setRow(), p) : STATE;
    }

    private int voteBy(List<Integer> all, int p) {
        int best = NONE;
        for (int q = now.people() - 1; q >= 0; q--) {
            boolean open = q != p && now.there(q) && !(now.wolves.contains(p) && now.wolves.contains(q));
            if (open && (best == NONE || with(all, q).size() >= with(all, best).size())) {
                best = q;
            }
        }
        return best;
    }

    int hanged() {
        List<Integer> all = setRow();
        int[] votes = new int[6];
        for (int p = 0; p < now.people(); p++) {
            int choice = now.there(p) ? voteBy(all, p) : NONE;
            if (choice >= 0) {
                votes[choice]++;
            }
        }
        int best = NONE;
        for (int p = 5; p >= 0; p--) {
            if (votes[p] > 0 && (best == NONE || votes[p] >= votes[best])) {
                best = p;
            }
        }
        return best;
    }

    // ---- bolts, dangers

    private interface Asked {
        boolean holds(World w);
    }

    /** The fewest houses that must be bolted so besides; of like ones the least. */
    private int fewest(int bolt, Asked asked) {
        for (int n = 0; n <= 4; n++) {
            for (int set = 0; set < 1 << now.houses(); set++) {
                World w = now.copy();
                for (int h = 0; h < w.houses(); h++) {
                    if ((set >> h & 1) == 1 && w.bolt.get(h) < bolt) {
                        w.bolt.set(h, bolt);
                    }
                }
                if (Integer.bitCount(set) == n && asked.holds(w)) {
                    return set;
                }
            }
        }
        throw new IllegalStateException();
    }

    int safe() {
        return fewest(1, w -> {
            for (int p = 0; p < w.people(); p++) {
                for (int q = 0; q < w.people(); q++) {
                    if (w.wolves.contains(p) && w.there(p) && w.there(q) && !w.wolves.contains(q)
                            && w.reaches(p, w.home.get(q))) {
                        return false;
                    }
                }
            }
            return true;
        });
    }

    int locked() {
        List<Integer> all = setRow();
        return fewest(2, w -> {
            for (int p = 0; p < w.people(); p++) {
                for (int h = 0; h < w.houses(); h++) {
                    if (!with(all, p).isEmpty() && w.reaches(p, h)) {
                        return false;
                    }
                }
            }
            return true;
        });
    }

    private record Likely(World world, BigInteger shares) { }

    private static void add(Map<String, Likely> all, World world, BigInteger shares) {
        Likely known = all.get(world.key());
        all.put(world.key(), new Likely(world, known == null ? shares : known.shares.add(shares)));
    }

    long danger(int person, int n, boolean upper) {
        if (noPerson(person)) {
            return UNKNOWN;
        }
        if (n < 1 || n > 2) {
            return OUTSIDE;
        }
        Map<String, Likely> all = new HashMap<>();
        add(all, now.copy(), BigInteger.ONE);
        for (int night = 0; night < n; night++) {
            for (int p = 0; p < now.people(); p++) {
                Map<String, Likely> next = new HashMap<>();
                for (Likely one : all.values()) {
                    List<Integer> goals = goals(one.world, p);
                    if (goals.isEmpty()) {
                        add(next, one.world, one.shares.multiply(BigInteger.valueOf(12)));
                    }
                    for (int h : goals) {
                        World w = one.world.copy();
                        w.goVisit(p, h);
                        add(next, w, one.shares.multiply(BigInteger.valueOf(12 / goals.size())));
                    }
                }
                all = next;
            }
            Map<String, Likely> next = new HashMap<>();
            for (Likely one : all.values()) {
                World w = one.world.copy();
                w.becomeDay();
                add(next, w, one.shares);
            }
            all = next;
        }
        BigInteger with = BigInteger.ZERO;
        BigInteger sum = BigInteger.ZERO;
        for (Likely one : all.values()) {
            sum = sum.add(one.shares);
            with = one.world.wolves.contains(person) ? with.add(one.shares) : with;
        }
        return part(with, sum, upper);
    }

    long seed(long v) {
        long was = seed;
        seed = v;
        return was;
    }

    int years(int m) {
        if (m < 1 || m > 30) {
            return OUTSIDE;
        }
        World w = now.copy();
        BigInteger times = new BigInteger("6364136223846793005");
        BigInteger and = new BigInteger("1442695040888963407");
        for (int i = 0; i < m; i++) {
            for (int p = 0; p < w.people(); p++) {
                List<Integer> goals = goals(w, p);
                if (!goals.isEmpty()) {
                    seed = BigInteger.valueOf(seed).multiply(times).add(and).longValue();
                    long upper31 = Long.divideUnsigned(seed, 1L << 33);
                    w.goVisit(p, goals.get((int) (upper31 % goals.size())));
                }
            }
            w.becomeDay();
        }
        w.wolves.removeAll(w.hanged);
        return bits(w.wolves);
    }

    // ---- slots

    int keep(int slot) {
        if (slot < 0 || slot > 1) {
            return UNKNOWN;
        }
        kept[slot] = now.copy();
        return now.night;
    }

    int again(int slot) {
        if (slot < 0 || slot > 1) {
            return UNKNOWN;
        }
        if (kept[slot] == null) {
            return STATE;
        }
        now = kept[slot].copy();
        row.clear();
        return now.night;
    }

    int count(int what) {
        int there = (1 << now.people()) - 1 & ~bits(now.hanged);
        int open = 0;
        int sheep = 0;
        for (int h = 0; h < now.houses(); h++) {
            open += now.bolt.get(h) == 0 ? 1 << h : 0;
            sheep += now.sheep.get(h);
        }
        int[] all = {text.length(), now.houses(), now.people(), now.night, bits(now.wolves) & there, there,
            sheep, row.size(), sights.size(), now.paths.size(), open};
        return what >= 0 && what < all.length ? all[what] : OUTSIDE;
    }
}
