/**
 * Who was it at full moon: a village in which some are wolves by night.
 * What each call answers, and what it refuses, is told in DOC.md; a word in
 * capitals here means what it means there. Sets of houses and of people are
 * told as bits; rows of small numbers lie in the eight cells of a long.
 */
public final class FullMoonWho {
    public static final int UNKNOWN = -1, OUTSIDE = -2, STATE = -3, FULL = -4, NONE = -9;

    private static final int TEXT_MOST = 96;
    private static final int HOUSES_MOST = 4, PEOPLE_MOST = 6;
    private static final int ACTS_MOST = 16, SIGHTS_MOST = 6, SLOTS = 2;
    private static final int MOONS = 3, TRACKS_MOST = 6;
    private static final int VISITS_MOST = 4, DANGER_MOST = 2, YEARS_MOST = 30;
    private static final int OPEN = 0, BOLTED = 1, BARRED = 2;
    private static final int SETS_MOST = 64, CUBES = 729;
    /** 1, 2 or 3 houses are as likely each: 6 can be shared out among them without a rest. */
    private static final int SHARES = 6;
    /** What stands open at once in the deepest DANGER: two nights of six walks and a dawn each, and the start. */
    private static final int STEPS = 16;
    private static final long SEED_TIMES = 6364136223846793005L, SEED_AND = 1442695040888963407L;

    private final Text text = new Text();
    private Village village = new Village();
    private final Night now = new Night();
    /** For nights that are only thought of: told visits, years. */
    private final Night thought = new Night();
    private final Acts acts = new Acts();
    private final Night[] slots = new Night[SLOTS];
    private int keptSlots = 0;
    private final Sights sights = new Sights();
    private final Tales tales = new Tales();
    private final Chances chances = new Chances();
    private long seed = 0;

    public FullMoonWho() {
        fillNights(slots);
    }

    // ---- the village

    public int write(int n, long v) {
        if (n < 1 || n > 8) {
            return OUTSIDE;
        }
        if (text.length + n > TEXT_MOST) {
            return FULL;
        }
        for (int i = n - 1; i >= 0; i--) {
            text.append((int) (v >>> (8 * i)) & 255);
        }
        return text.length;
    }

    public int wipe() {
        int was = text.length;
        text.length = 0;
        return was;
    }

    public int fault() {
        return new Reader(text).read();
    }

    public int village() {
        Reader reader = new Reader(text);
        if (reader.read() != NONE) {
            return STATE;
        }
        village = reader.village;
        now.begin(village);
        acts.clear();
        keptSlots = 0;
        return 10 * village.houses + village.people;
    }

    public int house(int house, int what) {
        if (noHouse(house)) {
            return UNKNOWN;
        }
        switch (what) {
            case 0: return cell(now.sheep, house);
            case 1: return now.boltOf(house);
            case 2: return cell(now.tracks, house);
            case 3: return village.dwellers(house);
            case 4: return cell(village.paths, house);
            case 5: return cell(village.wells, house);
            default: return OUTSIDE;
        }
    }

    public int person(int person, int what) {
        if (noPerson(person)) {
            return UNKNOWN;
        }
        switch (what) {
            case 0: return cell(village.homes, person);
            case 1: return bitOf(now.wolves, person);
            case 2: return bitOf(now.bitten, person);
            case 3: return bitOf(now.gone, person);
            case 4: return bitOf(now.out, person);
            case 5: return now.biterOf(person);
            case 6: return cell(village.kin, person);
            default: return OUTSIDE;
        }
    }

    public int may(int person) {
        return noPerson(person) ? UNKNOWN : now.goals(village, person);
    }

    public int prey(int person, int house) {
        if (noPerson(person) || noHouse(house)) {
            return UNKNOWN;
        }
        return has(now.goals(village, person), house) ? now.victim(village, person, house) : STATE;
    }

    // ---- acts

    public int visit(int person, int house) {
        if (noPerson(person) || noHouse(house)) {
            return UNKNOWN;
        }
        if (!has(now.goals(village, person), house)) {
            return STATE;
        }
        acts.add(now);
        return now.walk(village, person, house);
    }

    public int dawn() {
        acts.add(now);
        return now.nextNight();
    }

    public int hang(int person) {
        if (noPerson(person)) {
            return UNKNOWN;
        }
        if (has(now.gone, person)) {
            return STATE;
        }
        acts.add(now);
        now.gone |= bit(person);
        return bitOf(now.wolves, person);
    }

    public int bolt(int house, int bolt) {
        if (noHouse(house)) {
            return UNKNOWN;
        }
        if (bolt < OPEN || bolt > BARRED) {
            return OUTSIDE;
        }
        int was = now.boltOf(house);
        if (was == bolt) {
            return STATE;
        }
        acts.add(now);
        now.setBolt(house, bolt);
        return was;
    }

    public int undo() {
        return acts.takeBack(now) ? acts.count : STATE;
    }

    public int judge(int n, int row) {
        if (n < 1 || n > VISITS_MOST || row < 0 || row >= powerOf(100, n)) {
            return OUTSIDE;
        }
        thought.copyFrom(now);
        for (int i = 0; i < n; i++) {
            int told = row;
            for (int behind = n - 1; behind > i; behind--) {
                told /= 100;
            }
            int who = told / 10 % 10;
            int where = told % 10;
            if (noPerson(who) || noHouse(where) || !has(thought.goals(village, who), where)) {
                return i;
            }
            thought.walk(village, who, where);
        }
        return NONE;
    }

    // ---- lines

    public int first(int person) {
        return noPerson(person) ? UNKNOWN : now.firstOf(person);
    }

    public int line(int person) {
        return noPerson(person) ? UNKNOWN : now.bitesAhead(person);
    }

    public int brood(int person) {
        if (noPerson(person)) {
            return UNKNOWN;
        }
        int found = 0;
        for (int p = 0; p < village.people; p++) {
            if (now.firstOf(p) == person) {
                found |= bit(p);
            }
        }
        return found;
    }

    // ---- sights

    public int track(int moon, int house, int k) {
        if (noHouse(house)) {
            return UNKNOWN;
        }
        if (noMoon(moon) || k < 0 || k > TRACKS_MOST) {
            return OUTSIDE;
        }
        return sights.add(Sights.TRACKS, moon, house, k);
    }

    public int hungry(int moon, int person, boolean is) {
        if (noPerson(person)) {
            return UNKNOWN;
        }
        if (noMoon(moon)) {
            return OUTSIDE;
        }
        return sights.add(Sights.HUNGER, moon, person, is ? 1 : 0);
    }

    public int spoon(int person, boolean took) {
        return noPerson(person) ? UNKNOWN : sights.add(Sights.SPOON, 0, person, took ? 1 : 0);
    }

    public int unsee() {
        int were = sights.count;
        sights.count = 0;
        return were;
    }

    public long tales() {
        tellTales();
        return tales.all();
    }

    public int sets() {
        tellTales();
        return tales.setCount();
    }

    public int setAt(int i) {
        tellTales();
        return tales.setNumbered(i);
    }

    public int sure(int what) {
        if (what < 0 || what > 2) {
            return OUTSIDE;
        }
        tellTales();
        if (tales.setCount() == 0) {
            return NONE;
        }
        if (what == 0) {
            return tales.inAll();
        }
        return what == 1 ? now.there(village) & ~tales.inSome() : tales.inSome();
    }

    public long likely(int person, boolean upper) {
        if (noPerson(person)) {
            return UNKNOWN;
        }
        tellTales();
        long all = tales.all();
        return all == 0 ? STATE : partOf(tales.allWith(person), all, upper);
    }

    public int toTest() {
        tellTales();
        return tales.setCount() == 0 ? NONE : tales.bestSpoon(now.there(village));
    }

    public int tests() {
        tellTales();
        return tales.setCount() == 0 ? NONE : tales.spoonsAtWorst();
    }

    // ---- votes

    public int vote(int person) {
        if (noPerson(person)) {
            return UNKNOWN;
        }
        if (has(now.gone, person)) {
            return STATE;
        }
        tellTales();
        return choiceOf(person);
    }

    public int hanged() {
        tellTales();
        long votes = 0;
        for (int p = 0; p < village.people; p++) {
            int choice = has(now.gone, p) ? NONE : choiceOf(p);
            if (choice != NONE) {
                votes = withCell(votes, choice, cell(votes, choice) + 1);
            }
        }
        int most = NONE;
        int mostVotes = 0;
        for (int p = 0; p < village.people; p++) {
            if (cell(votes, p) > mostVotes) {
                most = p;
                mostVotes = cell(votes, p);
            }
        }
        return most;
    }

    // ---- bolts, dangers

    public int safe() {
        int there = now.there(village);
        int reached = 0;
        int lived = 0;
        for (int p = 0; p < village.people; p++) {
            if (has(there & now.wolves, p)) {
                reached |= now.reach(village, p);
            } else if (has(there, p)) {
                lived |= bit(cell(village.homes, p));
            }
        }
        return reached & lived;
    }

    public int locked() {
        tellTales();
        int suspects = tales.inSome();
        int best = below(village.houses);
        for (int bars = 0; bars < (1 << HOUSES_MOST) && bars <= below(village.houses); bars++) {
            if (Integer.bitCount(bars) < Integer.bitCount(best) && lockedIn(suspects, bars)) {
                best = bars;
            }
        }
        return best;
    }

    public long danger(int person, int n, boolean upper) {
        if (noPerson(person)) {
            return UNKNOWN;
        }
        if (n < 1 || n > DANGER_MOST) {
            return OUTSIDE;
        }
        return partOf(chances.ofBeingWolf(village, now, person, n), powerOf(SHARES, village.people * n), upper);
    }

    public long seed(long v) {
        long was = seed;
        seed = v;
        return was;
    }

    public int years(int m) {
        if (m < 1 || m > YEARS_MOST) {
            return OUTSIDE;
        }
        thought.copyFrom(now);
        for (int i = 0; i < m; i++) {
            for (int p = 0; p < village.people; p++) {
                walkBySeed(p);
            }
            thought.nextNight();
        }
        return thought.wolves & thought.there(village);
    }

    // ---- slots

    public int keep(int slot) {
        Night kept = nightAt(slots, slot);
        if (kept == null) {
            return UNKNOWN;
        }
        kept.copyFrom(now);
        keptSlots |= bit(slot);
        return now.number;
    }

    public int again(int slot) {
        Night kept = nightAt(slots, slot);
        if (kept == null) {
            return UNKNOWN;
        }
        if (!has(keptSlots, slot)) {
            return STATE;
        }
        now.copyFrom(kept);
        acts.clear();
        return now.number;
    }

    public int count(int what) {
        switch (what) {
            case 0: return text.length;
            case 1: return village.houses;
            case 2: return village.people;
            case 3: return now.number;
            case 4: return now.wolves & now.there(village);
            case 5: return now.there(village);
            case 6: return now.allSheep();
            case 7: return acts.count;
            case 8: return sights.count;
            case 9: return village.pathCount;
            case 10: return now.openHouses(village);
            default: return OUTSIDE;
        }
    }

    // ---- what several calls share

    private boolean noHouse(int house) {
        return house < 0 || house >= village.houses;
    }

    private boolean noPerson(int person) {
        return person < 0 || person >= village.people;
    }

    private static boolean noMoon(int moon) {
        return moon < 0 || moon >= MOONS;
    }

    private void tellTales() {
        tales.tell(village, now, sights);
    }

    /** For whom one votes by the tales that are told; NONE: nobody. */
    private int choiceOf(int voter) {
        int open = now.there(village) & ~bit(voter);
        if (has(now.wolves, voter)) {
            open &= ~now.wolves;
        }
        int choice = NONE;
        int most = -1;
        for (int p = 0; p < village.people; p++) {
            int sets = tales.setsWith(p);
            if (has(open, p) && sets > most) {
                choice = p;
                most = sets;
            }
        }
        return choice;
    }

    /** Whether none of these people could go anywhere, were these houses barred besides. */
    private boolean lockedIn(int people, int bars) {
        int barred = now.barred | bars;
        int open = now.openHouses(village) & ~bars;
        for (int p = 0; p < village.people; p++) {
            int home = cell(village.homes, p);
            if (has(people, p) && !has(barred, home) && (cell(village.paths, home) & open) != 0) {
                return false;
            }
        }
        return true;
    }

    private void walkBySeed(int wolf) {
        int goals = thought.goals(village, wolf);
        int many = Integer.bitCount(goals);
        if (many == 0) {
            return;
        }
        seed = seed * SEED_TIMES + SEED_AND;
        thought.walk(village, wolf, bitNumbered(goals, (int) ((seed >>> 33) % many)));
    }

    // ---- bits, cells, numbers

    private static int bit(int i) {
        return 1 << i;
    }

    private static boolean has(int bits, int i) {
        return (bits >> i & 1) == 1;
    }

    private static int bitOf(int bits, int i) {
        return bits >> i & 1;
    }

    /** The bits of all numbers below this one. */
    private static int below(int n) {
        return (1 << n) - 1;
    }

    /** The bit that has just n ones below it; NONE: there is none. */
    private static int bitNumbered(int bits, int n) {
        int passed = 0;
        for (int i = 0; i < 8; i++) {
            if (has(bits, i) && passed++ == n) {
                return i;
            }
        }
        return NONE;
    }

    /** The i-th (0 to 7) of the eight small numbers in a row. */
    private static int cell(long row, int i) {
        return (int) (row >>> (8 * i)) & 255;
    }

    private static long withCell(long row, int i, int value) {
        return row & ~(255L << (8 * i)) | (long) (value & 255) << (8 * i);
    }

    /** The number at this place of a row; 0: there is no such place. */
    private static int at(int[] row, int i) {
        return i >= 0 && i < row.length ? row[i] : 0;
    }

    private static void put(int[] row, int i, int value) {
        if (i >= 0 && i < row.length) {
            row[i] = value;
        }
    }

    private static long powerOf(long base, int n) {
        long power = 1;
        for (int i = 0; i < n; i++) {
            power *= base;
        }
        return power;
    }

    /** The upper or the lower number of a fraction in least terms; its lower one is 1 and more. */
    private static long partOf(long top, long bottom, boolean upper) {
        long divisor = bottom;
        long rest = top;
        // Euclid's steps over longs are fewer than 100.
        for (int i = 0; i < 100 && rest != 0; i++) {
            long next = divisor % rest;
            divisor = rest;
            rest = next;
        }
        if (divisor == 0) {
            return 0;
        }
        return upper ? top / divisor : bottom / divisor;
    }

    private static void fillNights(Night[] nights) {
        for (int i = 0; i < nights.length; i++) {
            nights[i] = new Night();
        }
    }

    /** The night at this place of a row; null: there is no such place. */
    private static Night nightAt(Night[] nights, int i) {
        return i >= 0 && i < nights.length ? nights[i] : null;
    }

    /** THE TEXT. */
    private static final class Text {
        private final byte[] bytes = new byte[TEXT_MOST];
        private int length = 0;

        void append(int value) {
            if (length >= 0 && length < bytes.length) {
                bytes[length] = (byte) value;
                length++;
            }
        }

        /** The byte at a place, 0 to 255; NONE: the text ends ahead of it. */
        int byteAt(int place) {
            return place >= 0 && place < length && place < bytes.length ? bytes[place] & 255 : NONE;
        }
    }

    /** What no act changes, and how the first night begins. */
    private static final class Village {
        private int houses = 0;
        private int people = 0;
        private int pathCount = 0;
        /** Of each house the houses next to it, and of these those by a well. */
        private long paths = 0;
        private long wells = 0;
        /** Of each person its house and its kin. */
        private long homes = 0;
        private long kin = 0;
        private long sheep = 0;
        private int bolted = 0;
        private int barred = 0;
        private int wolves = 0;

        void addHouse(int itsSheep, int itsBolt) {
            sheep = withCell(sheep, houses, itsSheep);
            if (itsBolt == BOLTED) {
                bolted |= bit(houses);
            }
            if (itsBolt == BARRED) {
                barred |= bit(houses);
            }
            houses++;
        }

        void addPath(int a, int b, boolean byWell) {
            paths = linked(paths, a, b);
            if (byWell) {
                wells = linked(wells, a, b);
            }
            pathCount++;
        }

        void addPerson(int home, boolean isWolf) {
            homes = withCell(homes, people, home);
            if (isWolf) {
                wolves |= bit(people);
            }
            people++;
        }

        void addKin(int i, int j) {
            kin = linked(kin, i, j);
        }

        int dwellers(int house) {
            int found = 0;
            for (int p = 0; p < people; p++) {
                if (cell(homes, p) == house) {
                    found |= bit(p);
                }
            }
            return found;
        }

        private static long linked(long links, int a, int b) {
            long there = withCell(links, a, cell(links, a) | bit(b));
            return withCell(there, b, cell(there, b) | bit(a));
        }
    }

    /** Reads a text as a village up to the first byte that no village can have there. */
    private static final class Reader {
        private final Text text;
        private final Village village = new Village();
        private int place = 0;
        private int endA = NONE;
        private int endB = NONE;

        Reader(Text text) {
            this.text = text;
        }

        /** FAULT; NONE: the village is read. */
        int read() {
            if (text.byteAt(place) != 'V') {
                return place;
            }
            place++;
            // A part takes a byte or more, so that there are no more parts than bytes.
            for (int i = 0; i < TEXT_MOST && place < text.length; i++) {
                if (!readPart()) {
                    return place;
                }
            }
            return NONE;
        }

        private boolean readPart() {
            switch (text.byteAt(place)) {
                case 'H': return readHouse();
                case 'R': return readPath();
                case 'P': return readPerson();
                case 'K': return readKin();
                default: return false;
            }
        }

        // A letter is a fault already if no part with it can be ended any more.

        private boolean readHouse() {
            if (village.houses >= HOUSES_MOST) {
                return false;
            }
            place++;
            int sheep = figure(below(10));
            int bolt = sheep < 0 ? NONE : figure(below(3));
            if (bolt < 0) {
                return false;
            }
            village.addHouse(sheep, bolt);
            return true;
        }

        private boolean readPath() {
            int well = readEnds(village.paths, village.houses) ? figure(below(2)) : NONE;
            if (well < 0) {
                return false;
            }
            village.addPath(endA, endB, well == 1);
            return true;
        }

        private boolean readPerson() {
            if (village.people >= PEOPLE_MOST || village.houses == 0) {
                return false;
            }
            place++;
            int home = figure(below(village.houses));
            int wolf = home < 0 ? NONE : figure(below(2));
            if (wolf < 0) {
                return false;
            }
            village.addPerson(home, wolf == 1);
            return true;
        }

        private boolean readKin() {
            if (!readEnds(village.kin, village.people)) {
                return false;
            }
            village.addKin(endA, endB);
            return true;
        }

        /** Reads the letter of a link and its ends, two of n ones that are not linked so far. */
        private boolean readEnds(long links, int n) {
            int ends = linkable(links, n);
            if (ends == 0) {
                return false;
            }
            place++;
            endA = figure(ends);
            endB = endA < 0 ? NONE : figure(unlinked(links, n, endA));
            return endB >= 0;
        }

        /** The figure at the place, if it is one of the allowed ones (the place goes on); NONE: it is not. */
        private int figure(int allowed) {
            int value = text.byteAt(place) - '0';
            if (value < 0 || value > 9 || !has(allowed, value)) {
                return NONE;
            }
            place++;
            return value;
        }

        /** Which of n ones can still be linked to this one. */
        private static int unlinked(long links, int n, int i) {
            return below(n) & ~cell(links, i) & ~bit(i);
        }

        /** Which of n ones can still be linked to some other one. */
        private static int linkable(long links, int n) {
            int found = 0;
            for (int i = 0; i < n; i++) {
                if (unlinked(links, n, i) != 0) {
                    found |= bit(i);
                }
            }
            return found;
        }
    }

    /** All that acts change. */
    private static final class Night {
        private int number = 0;
        private int wolves = 0;
        private int bitten = 0;
        private int gone = 0;
        private int out = 0;
        private int bolted = 0;
        private int barred = 0;
        private long sheep = 0;
        private long tracks = 0;
        /** Of each person the one that bit it, and 1; 0: nobody did. */
        private long biters = 0;

        void copyFrom(Night other) {
            number = other.number;
            wolves = other.wolves;
            bitten = other.bitten;
            gone = other.gone;
            out = other.out;
            bolted = other.bolted;
            barred = other.barred;
            sheep = other.sheep;
            tracks = other.tracks;
            biters = other.biters;
        }

        void begin(Village village) {
            number = 0;
            wolves = village.wolves;
            bitten = 0;
            gone = 0;
            out = 0;
            bolted = village.bolted;
            barred = village.barred;
            sheep = village.sheep;
            tracks = 0;
            biters = 0;
        }

        int there(Village village) {
            return below(village.people) & ~gone;
        }

        int openHouses(Village village) {
            return below(village.houses) & ~bolted & ~barred;
        }

        int boltOf(int house) {
            if (has(barred, house)) {
                return BARRED;
            }
            return has(bolted, house) ? BOLTED : OPEN;
        }

        void setBolt(int house, int bolt) {
            bolted = bolt == BOLTED ? bolted | bit(house) : bolted & ~bit(house);
            barred = bolt == BARRED ? barred | bit(house) : barred & ~bit(house);
        }

        /** Where one could go from its house, whoever it is. */
        int reach(Village village, int person) {
            int home = cell(village.homes, person);
            return has(barred, home) ? 0 : cell(village.paths, home) & openHouses(village);
        }

        /** The houses that one MAY visit. */
        int goals(Village village, int person) {
            return has(wolves & ~gone & ~out, person) ? reach(village, person) : 0;
        }

        /** Whom this wolf would bite in this house; NONE: nobody. */
        int victim(Village village, int wolf, int house) {
            if (cell(sheep, house) > 0) {
                return NONE;
            }
            int prey = there(village) & village.dwellers(house) & ~wolves & ~bitten & ~cell(village.kin, wolf);
            return bitNumbered(prey, 0);
        }

        /** A VISIT that may be: whom it bites; NONE: nobody. */
        int walk(Village village, int wolf, int house) {
            int victim = victim(village, wolf, house);
            out |= bit(wolf);
            if (!has(cell(village.wells, cell(village.homes, wolf)), house)) {
                tracks = withCell(tracks, house, cell(tracks, house) + 1);
            }
            if (cell(sheep, house) > 0) {
                sheep = withCell(sheep, house, cell(sheep, house) - 1);
            }
            if (victim != NONE) {
                bitten |= bit(victim);
                biters = withCell(biters, victim, wolf + 1);
            }
            return victim;
        }

        /** DAWN: who is a wolf from now on. */
        int nextNight() {
            int fresh = bitten & ~wolves;
            wolves |= bitten;
            bitten = 0;
            out = 0;
            tracks = 0;
            number++;
            return fresh;
        }

        int biterOf(int person) {
            int biter = cell(biters, person);
            return biter == 0 ? NONE : biter - 1;
        }

        int firstOf(int person) {
            int at = person;
            for (int i = 0; i < PEOPLE_MOST && biterOf(at) != NONE; i++) {
                at = biterOf(at);
            }
            return at;
        }

        /** How many bites lie between a person and its first one. */
        int bitesAhead(int person) {
            int at = person;
            int bites = 0;
            for (int i = 0; i < PEOPLE_MOST && biterOf(at) != NONE; i++) {
                at = biterOf(at);
                bites++;
            }
            return bites;
        }

        int allSheep() {
            int sum = 0;
            for (int house = 0; house < HOUSES_MOST; house++) {
                sum += cell(sheep, house);
            }
            return sum;
        }
    }

    /** The row of acts: how the night was ahead of each of them. */
    private static final class Acts {
        private final Night[] before = new Night[ACTS_MOST];
        private int start = 0;
        private int count = 0;

        Acts() {
            fillNights(before);
        }

        void clear() {
            count = 0;
        }

        void add(Night night) {
            if (count >= ACTS_MOST) {
                start = (start + 1) % ACTS_MOST;
                count = ACTS_MOST - 1;
            }
            Night place = nightAt(before, (start + count) % ACTS_MOST);
            if (place != null) {
                place.copyFrom(night);
                count++;
            }
        }

        /** Makes the night as it was ahead of the last act; false: there is none. */
        boolean takeBack(Night night) {
            if (count <= 0) {
                return false;
            }
            Night place = nightAt(before, (start + count - 1) % ACTS_MOST);
            if (place == null) {
                return false;
            }
            night.copyFrom(place);
            count--;
            return true;
        }
    }

    /** What was seen, in the order in which it was told. */
    private static final class Sights {
        private static final int TRACKS = 0, HUNGER = 1, SPOON = 2;

        private final int[] kinds = new int[SIGHTS_MOST];
        private final int[] moons = new int[SIGHTS_MOST];
        /** The house of tracks, else the person. */
        private final int[] places = new int[SIGHTS_MOST];
        /** How many tracks; else 1: it was so, 0: it was not. */
        private final int[] values = new int[SIGHTS_MOST];
        private int count = 0;

        /** How many there are then; FULL. */
        int add(int kind, int moon, int place, int value) {
            if (count < 0 || count >= SIGHTS_MOST) {
                return FULL;
            }
            put(kinds, count, kind);
            put(moons, count, moon);
            put(places, count, place);
            put(values, count, value);
            count++;
            return count;
        }

        boolean isOf(int i, int kind, int moon) {
            return at(kinds, i) == kind && at(moons, i) == moon;
        }

        int place(int i) {
            return at(places, i);
        }

        int value(int i) {
            return at(values, i);
        }
    }

    /** How many tales of each set fit all sights, and what follows from these. */
    private static final class Tales {
        private final long[] fits = new long[SETS_MOST];
        /**
         * A cube is what is known after some spoons: of each person, by threes, 0 no wolf,
         * 1 a wolf, 2 not asked. How many sets are left in it, how many spoons it needs at worst.
         */
        private final int[] left = new int[CUBES];
        private final int[] needs = new int[CUBES];
        private int people = 0;
        /**
         * Of the moon that is looked at: who was not hungry behind it, and of each person in how
         * many ways it leaves no track that was looked for, and where it leaves one.
         */
        private int away = 0;
        private long unseenWays = 0;
        private long seenHouses = 0;

        void tell(Village village, Night night, Sights sights) {
            people = village.people;
            int there = night.there(village);
            for (int set = 0; set < fits.length; set++) {
                fits[set] = (set & ~there) == 0 && spoonsFit(set, there, sights) ? 1 : 0;
            }
            for (int moon = 0; moon < MOONS; moon++) {
                long wanted = look(village, night, sights, moon);
                for (int set = 0; set < fits.length; set++) {
                    if (fits[set] != 0) {
                        fits[set] *= wanted < 0 ? 0 : ways(set, 0, wanted);
                    }
                }
            }
        }

        private static boolean spoonsFit(int set, int there, Sights sights) {
            for (int i = 0; i < sights.count; i++) {
                boolean looked = sights.isOf(i, Sights.SPOON, 0) && has(there, sights.place(i));
                if (looked && has(set, sights.place(i)) == (sights.value(i) == 1)) {
                    return false;
                }
            }
            return true;
        }

        /** Takes in the sights of a moon: how many tracks each house must have; -1: nothing can fit. */
        private long look(Village village, Night night, Sights sights, int moon) {
            int there = night.there(village);
            int stayed = 0;
            away = 0;
            int watched = 0;
            long wanted = 0;
            for (int i = 0; i < sights.count; i++) {
                int place = sights.place(i);
                int value = sights.value(i);
                if (sights.isOf(i, Sights.HUNGER, moon) && has(there, place)) {
                    stayed |= value == 1 ? bit(place) : 0;
                    away |= value == 1 ? 0 : bit(place);
                } else if (sights.isOf(i, Sights.TRACKS, moon) && place < village.houses) {
                    if (has(watched, place) && cell(wanted, place) != value) {
                        return -1;
                    }
                    watched |= bit(place);
                    wanted = withCell(wanted, place, value);
                }
            }
            for (int p = 0; p < village.people; p++) {
                int reach = has(stayed, p) ? 0 : night.reach(village, p);
                int seen = reach & watched & ~cell(village.wells, cell(village.homes, p));
                int nowhere = has(away, p) ? 0 : 1;
                seenHouses = withCell(seenHouses, p, seen);
                unseenWays = withCell(unseenWays, p, Integer.bitCount(reach & ~seen) + nowhere);
            }
            return wanted;
        }

        /** In how many ways those of the set from this person on leave just the tracks that are still wanted. */
        private long ways(int set, int person, long wanted) {
            if (person >= people || person >= PEOPLE_MOST) {
                return wanted == 0 ? 1 : 0;
            }
            if (!has(set, person)) {
                return has(away, person) ? 0 : ways(set, person + 1, wanted);
            }
            int unseen = cell(unseenWays, person);
            long sum = unseen == 0 ? 0 : unseen * ways(set, person + 1, wanted);
            int seen = cell(seenHouses, person);
            for (int house = 0; house < HOUSES_MOST; house++) {
                int missing = cell(wanted, house);
                if (has(seen, house) && missing > 0) {
                    sum += ways(set, person + 1, withCell(wanted, house, missing - 1));
                }
            }
            return sum;
        }

        long all() {
            long sum = 0;
            for (int set = 0; set < fits.length; set++) {
                sum += fits[set];
            }
            return sum;
        }

        long allWith(int person) {
            long sum = 0;
            for (int set = 0; set < fits.length; set++) {
                sum += has(set, person) ? fits[set] : 0;
            }
            return sum;
        }

        int setCount() {
            int found = 0;
            for (int set = 0; set < fits.length; set++) {
                found += fits[set] > 0 ? 1 : 0;
            }
            return found;
        }

        int setsWith(int person) {
            int found = 0;
            for (int set = 0; set < fits.length; set++) {
                found += has(set, person) && fits[set] > 0 ? 1 : 0;
            }
            return found;
        }

        /** The set at this place of the order; NONE: there is none. */
        int setNumbered(int i) {
            int passed = 0;
            for (int set = 0; set < fits.length; set++) {
                if (fits[set] > 0 && passed++ == i) {
                    return set;
                }
            }
            return NONE;
        }

        int inAll() {
            int common = below(people);
            for (int set = 0; set < fits.length; set++) {
                common &= fits[set] > 0 ? set : -1;
            }
            return common;
        }

        int inSome() {
            int found = 0;
            for (int set = 0; set < fits.length; set++) {
                found |= fits[set] > 0 ? set : 0;
            }
            return found;
        }

        /** Whose spoon leaves fewest sets at worst; NONE: nobody is there. */
        int bestSpoon(int there) {
            int sets = setCount();
            int best = NONE;
            int fewest = SETS_MOST + 1;
            for (int p = 0; p < people; p++) {
                int with = setsWith(p);
                int worst = Math.max(with, sets - with);
                if (has(there, p) && worst < fewest) {
                    best = p;
                    fewest = worst;
                }
            }
            return best;
        }

        /** How many spoons tell the sets apart, if each is chosen best. */
        int spoonsAtWorst() {
            // What a spoon leaves of a cube has a smaller number, and so is known ahead of it.
            for (int cube = 0; cube < CUBES; cube++) {
                fillCube(cube);
            }
            return at(needs, CUBES - 1);
        }

        private void fillCube(int cube) {
            int set = 0;
            int sets = -1;
            int fewest = PEOPLE_MOST;
            int digits = cube;
            int power = 1;
            for (int p = 0; p < PEOPLE_MOST; p++) {
                int digit = digits % 3;
                if (digit == 1) {
                    set |= bit(p);
                }
                if (digit == 2) {
                    int without = cube - 2 * power;
                    int with = cube - power;
                    sets = at(left, without) + at(left, with);
                    fewest = Math.min(fewest, 1 + Math.max(at(needs, without), at(needs, with)));
                }
                digits /= 3;
                power *= 3;
            }
            if (sets < 0) {
                sets = set < fits.length && fits[set] > 0 ? 1 : 0;
            }
            put(left, cube, sets);
            put(needs, cube, sets <= 1 ? 0 : fewest);
        }
    }

    /** How likely it is that one is bitten in the nights to come. */
    private static final class Chances {
        /** The nights as they are after each step of one course of things. */
        private final Night[] steps = new Night[STEPS];
        private Village village = new Village();

        Chances() {
            fillNights(steps);
        }

        /** Of SHARES to the number of people in all nights as many as end with this person as a wolf. */
        long ofBeingWolf(Village ofWhat, Night from, int person, int nights) {
            village = ofWhat;
            Night begin = nightAt(steps, 0);
            if (begin == null) {
                return 0;
            }
            begin.copyFrom(from);
            return shares(0, 0, nights, person);
        }

        /**
         * The shares from a step on, at which it is this walker's turn; the nights are those that
         * have not ended. Each walker to come multiplies all shares by SHARES.
         */
        private long shares(int step, int walker, int nights, int person) {
            Night here = nightAt(steps, step);
            if (here == null) {
                return 0;
            }
            if (has(here.wolves | here.bitten, person)) {
                return powerOf(SHARES, village.people * nights - walker);
            }
            if (walker >= village.people) {
                return nights > 1 ? sharesAfterDawn(step, nights, person) : 0;
            }
            int may = here.goals(village, walker);
            int all = Integer.bitCount(may);
            int each = all == 0 ? 0 : SHARES / all;
            // In the last night nothing matters but what happens in this person's house.
            int goals = nights == 1 ? may & bit(cell(village.homes, person)) : may;
            int still = SHARES - each * Integer.bitCount(goals);
            long sum = still == 0 ? 0 : still * shares(step, walker + 1, nights, person);
            Night next = nightAt(steps, step + 1);
            for (int house = 0; house < HOUSES_MOST && next != null; house++) {
                if (has(goals, house)) {
                    next.copyFrom(here);
                    next.walk(village, walker, house);
                    sum += each * shares(step + 1, walker + 1, nights, person);
                }
            }
            return sum;
        }

        private long sharesAfterDawn(int step, int nights, int person) {
            Night here = nightAt(steps, step);
            Night next = nightAt(steps, step + 1);
            if (here == null || next == null) {
                return 0;
            }
            next.copyFrom(here);
            next.nextNight();
            return shares(step + 1, 0, nights - 1, person);
        }
    }
}
