import java.util.ArrayList;
import java.util.List;

/** All that an object answers, put in a row: two objects that are alike have like rows. */
final class Look {
    private final FullMoonWho who;
    private final List<String> seen = new ArrayList<>();

    private Look(FullMoonWho who) {
        this.who = who;
    }

    /** Undoes all acts, goes on from both slots, and tells the text as a village in the end: some 340 calls at most. */
    static List<String> of(FullMoonWho who) {
        Look look = new Look(who);
        look.village();
        look.sights();
        look.seed();
        look.acts();
        look.slot(0);
        look.slot(1);
        look.text();
        return look.seen;
    }

    private void see(String what, long answer) {
        seen.add(what + " " + answer);
    }

    private void village() {
        counts(0, 10);
        see("fault()", who.fault());
        for (int house = 0; house < who.count(1); house++) {
            for (int what = 0; what <= 5; what++) {
                see("house(" + house + ", " + what + ")", who.house(house, what));
            }
        }
        people(0, 6);
    }

    private void counts(int from, int to) {
        for (int what = from; what <= to; what++) {
            see("count(" + what + ")", who.count(what));
        }
    }

    private void people(int from, int to) {
        for (int person = 0; person < who.count(2); person++) {
            for (int what = from; what <= to; what++) {
                see("person(" + person + ", " + what + ")", who.person(person, what));
            }
        }
    }

    private void sights() {
        see("tales()", who.tales());
        see("sets()", who.sets());
        see("sure(0)", who.sure(0));
        see("sure(2)", who.sure(2));
        for (int person = 0; person < who.count(2); person++) {
            see("likely(" + person + ") above", who.likely(person, true));
            see("likely(" + person + ") below", who.likely(person, false));
        }
    }

    private void seed() {
        long seed = who.seed(0);
        who.seed(seed);
        see("seed", seed);
    }

    private void acts() {
        for (int left = who.count(7); left > 0; left--) {
            see("undo()", who.undo());
            counts(3, 6);
            see("count(10)", who.count(10));
        }
        see("undo()", who.undo());
    }

    private void slot(int slot) {
        see("again(" + slot + ")", who.again(slot));
        counts(3, 7);
        see("count(10)", who.count(10));
        for (int house = 0; house < who.count(1); house++) {
            see("then house(" + house + ", 1)", who.house(house, 1));
            see("then house(" + house + ", 2)", who.house(house, 2));
        }
        people(1, 5);
    }

    private void text() {
        see("unsee()", who.unsee());
        see("village()", who.village());
        counts(1, 10);
        see("wipe()", who.wipe());
    }
}
