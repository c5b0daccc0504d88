import java.util.function.Supplier;
import java.util.stream.IntStream;

/**
 * "Refused, and nothing changes, the first of these: BAD (a number is not as told, or there is no such thing), STATE
 * (as told), FULL": of each number of each call the least and the greatest that are taken, those beyond, and what a
 * refused call leaves as it was.
 */
public final class BoundsTest {
    private static final int BAD = -1, STATE = -2, FULL = -3, NO_PRICE = -1000000;
    private static final String BIG =
        "rooms8;way0 1 1;way1 2 2door;way2 3 3;way3 4 4door;way4 5 5;way5 6 6door;way6 7 7;way0 7 8door;way1 7 9;way2 7 10door;"
        + "way3 7 11;way4 7 12door;bundle0 1 1 1;bundle1 2 2 2;bundle2 3 3 3;bundle3 4 4 4;bundle4 5 5 5;bundle5 6 6 6;"
        + "bundle6 7 7 7;bundle7 8 8 8;bundle1 9 9 9;bundle2 10 10 10;man9;man20;man40;fire6 60;fire0 99;fire3 80;fire7 70;";

    /** A call with one of its numbers left open. */
    private interface Call {
        int of(CarryFirst x, int number);
    }

    private static final Supplier<CarryFirst> FULL_LIFE = BoundsTest::inTheMiddle;
    private static final Supplier<CarryFirst> NEW = CarryFirst::new;
    /** No way to ROOM 1; no IMAGE; no man. */
    private static final Supplier<CarryFirst> NO_WAY = () -> Checks.in("rooms 2;way 0 1 1 door;bundle 0 1 1 1;");
    private static final Supplier<CarryFirst> FULL_TEXT = BoundsTest::withFullText;

    public static void main(String[] args) {
        boundsOfTheHouse();
        boundsOfTunes();
        boundsOfPlans();
        boundsOfMost();
        boundsOfChances();
        boundsOfWhatIsLeft();
        boundsOfChainsAndPlaces();
        boundsOfKindsAndImages();
        thereIsNoSuchThing();
        badAheadOfState();
        badAheadOfFull();
        stateChangesNothing();
        fullChangesNothing();
        Checks.end();
    }

    /** Something of all that may change has changed; a text is begun. */
    private static CarryFirst inTheMiddle() {
        CarryFirst x = Checks.in(BIG);
        x.fetch(1, 2);
        x.tune(4, 2);
        x.keep(0);
        x.tune(4, 8 + 32);
        x.fetch(0, 1);
        x.fetch(2, 256);
        x.keep(1);
        x.fetch(2, 512);
        x.tune(4, 128 + 32);
        x.tune(0, 2);
        x.tune(1, 30);
        x.tune(2, 3);
        x.tune(3, 1);
        x.chance(0, 2, 3);
        x.chance(0, 4, 2);
        x.price(5, 3);
        x.price(1, 3);
        Checks.type(x, "rooms 2;man 4;");
        return x;
    }

    private static CarryFirst withFullText() {
        CarryFirst x = Checks.in(BIG);
        Checks.type(x, "rooms 3;" + " ".repeat(392));
        return x;
    }

    // ---- all that can be asked; the asking goes on until little stands

    private static String told(Supplier<CarryFirst> maker) {
        return toldBy(maker.get());
    }

    private static String toldBy(CarryFirst x) {
        StringBuilder s = new StringBuilder();
        askAll(x, s);
        for (int image = 0; image < 2; image++) {
            s.append("back ").append(x.back(image)).append('\n');
            askAll(x, s);
        }
        s.append("house ").append(x.house()).append('\n');
        askAll(x, s);
        return s.toString();
    }

    private static void askAll(CarryFirst x, StringBuilder s) {
        for (int i = 0; i < 6; i++) s.append(x.count(i)).append(' ');
        for (int i = 0; i < 12; i++) {
            for (int what = 0; what < 5; what++) s.append(x.way(i, what)).append(' ').append(x.bundle(i, what)).append(' ');
            for (int what = 0; what < 4; what++) s.append(x.room(i, what)).append(' ');
        }
        for (int m = 0; m < 3; m++) {
            s.append(x.man(m, 0)).append(' ').append(x.man(m, 1)).append(' ').append(x.saved(m)).append(' ').append(x.all(m - 1));
            for (int what = 0; what < 4; what++) s.append(' ').append(x.one(m, what));
            for (int what = 0; what < 3; what++) s.append(' ').append(x.run(m, 3, what));
        }
        for (int what = 0; what < 2; what++) s.append(' ').append(x.doors(what)).append(' ').append(x.lost(64, what));
        for (int k = 0; k < 5; k++) s.append(' ').append(x.chance(k, k, 0));
        for (int t = 0; t < 90; t += 3) s.append(' ').append(x.sure(2, 64, t));
        s.append(' ').append(x.last(2, 64, 6)).append(' ').append(x.loads(3, 20, 50, 0)).append(' ').append(x.edge(3, 50));
        for (int b = 0; b < 10; b++) s.append(' ').append(x.place(b, 2));
        for (int what = 0; what < 5; what++) {
            int was = x.tune(what, 1);
            s.append(' ').append(was);
            x.tune(what, was);
        }
        s.append(' ').append(x.trace()).append('\n');
    }

    // ---- one number

    private static void bounds(String name, Supplier<CarryFirst> maker, int least, int most, Call call) {
        bounds(name, maker, least, most, BAD, call);
    }

    /** The numbers from least to most are taken (or refused for another reason), all others are BAD. */
    private static void bounds(String name, Supplier<CarryFirst> maker, int least, int most, int bad, Call call) {
        numbersAround(least, most).forEach(n -> {
            int got = call.of(maker.get(), n);
            boolean taken = n >= least && n <= most;
            if (taken) Checks.due(name + " with " + n + " is taken", got == bad ? 0 : 1, 1);
            else Checks.due(name + " with " + n, got, bad);
        });
        // one object that is told all the wrong numbers: nothing changes
        CarryFirst x = maker.get();
        numbersAround(least, most).filter(n -> n < least || n > most).forEach(n -> call.of(x, n));
        boolean same = toldBy(x).equals(told(maker));
        Checks.due(name + ": the wrong numbers change nothing", same ? 1 : 0, 1);
    }

    /** Those at the ends and beside them, and such as would come to one that is taken if they went round. */
    private static IntStream numbersAround(int least, int most) {
        IntStream.Builder all = IntStream.builder();
        for (int i = -3; i <= 12; i++) all.add(least + i).add(most + 3 - i);
        for (int k = 4; k <= 31; k++) all.add(least + (1 << k)).add(most - (1 << k)).add(most + (1 << k));
        all.add(Integer.MIN_VALUE).add(Integer.MIN_VALUE + 1).add(Integer.MAX_VALUE - 1).add(Integer.MAX_VALUE);
        return all.build().distinct();
    }

    private static void boundsOfTheHouse() {
        bounds("type(.., n)", FULL_LIFE, 1, 8, (x, n) -> x.type(0x2020202020202020L, n));
        bounds("way(w, ..)", FULL_LIFE, 0, 11, (x, w) -> x.way(w, 0));
        bounds("way(.., what)", FULL_LIFE, 0, 4, (x, what) -> x.way(1, what));
        bounds("bundle(b, ..)", FULL_LIFE, 0, 9, (x, b) -> x.bundle(b, 1));
        bounds("bundle(.., what)", FULL_LIFE, 0, 4, (x, what) -> x.bundle(9, what));
        bounds("room(r, ..)", FULL_LIFE, 0, 7, (x, r) -> x.room(r, 0));
        bounds("room(.., what)", FULL_LIFE, 0, 3, (x, what) -> x.room(7, what));
        bounds("count(what)", FULL_LIFE, 0, 5, CarryFirst::count);
    }

    private static void boundsOfTunes() {
        bounds("tune(what, ..)", FULL_LIFE, 0, 4, (x, what) -> x.tune(what, 1));
        bounds("tune(0, v)", FULL_LIFE, 1, 9, (x, v) -> x.tune(0, v));
        bounds("tune(1, v)", FULL_LIFE, 0, 90, (x, v) -> x.tune(1, v));
        bounds("tune(2, v)", FULL_LIFE, 0, 30, (x, v) -> x.tune(2, v));
        bounds("tune(3, v)", FULL_LIFE, 1, 9, (x, v) -> x.tune(3, v));
        bounds("tune(4, v)", FULL_LIFE, 0, 4095, (x, v) -> x.tune(4, v));
    }

    private static void boundsOfPlans() {
        bounds("fetch(man, ..)", FULL_LIFE, 0, 2, (x, man) -> x.fetch(man, 4));
        bounds("fetch(.., set)", FULL_LIFE, 1, 1023, (x, set) -> x.fetch(2, set));
        bounds("why(man, ..)", FULL_LIFE, 0, 2, (x, man) -> x.why(man, 4));
        bounds("why(.., set)", FULL_LIFE, 1, 1023, (x, set) -> x.why(2, set));
        bounds("man(m, ..)", FULL_LIFE, 0, 2, (x, m) -> x.man(m, 0));
        bounds("man(.., what)", FULL_LIFE, 0, 1, (x, what) -> x.man(2, what));
        bounds("saved(what)", FULL_LIFE, 0, 2, CarryFirst::saved);
    }

    private static void boundsOfMost() {
        bounds("one(man, ..)", FULL_LIFE, 0, 2, (x, man) -> x.one(man, 0));
        bounds("one(.., what)", FULL_LIFE, 0, 3, (x, what) -> x.one(2, what));
        bounds("all(m)", FULL_LIFE, -1, 2, CarryFirst::all);
        bounds("run(rule, ..)", FULL_LIFE, 0, 2, (x, rule) -> x.run(rule, 1, 0));
        bounds("run(.., n, ..)", FULL_LIFE, 1, 9, (x, n) -> x.run(2, n, 1));
        bounds("run(.., what)", FULL_LIFE, 0, 2, (x, what) -> x.run(1, 9, what));
        bounds("doors(what)", FULL_LIFE, 0, 1, CarryFirst::doors);
    }

    private static void boundsOfChances() {
        bounds("chance(j, ..)", FULL_LIFE, 0, 4, (x, j) -> x.chance(j, 2, 0));
        bounds("chance(.., k, ..)", FULL_LIFE, 0, 4, (x, k) -> x.chance(0, k, 1));
        // CHANCES are 5, 0, 3, 0, 2: of j as many at least
        int[] chances = {5, 0, 3, 0, 2};
        for (int j = 0; j < 5; j++) {
            int from = j;
            bounds("chance(" + j + ", 1, v)", FULL_LIFE, 0, chances[j], (x, v) -> x.chance(from, 1, v));
            bounds("chance(" + j + ", " + j + ", v)", FULL_LIFE, 0, chances[j], (x, v) -> x.chance(from, from, v));
        }
        bounds("chance(0, 4, v) at first", NEW, 0, 10, (x, v) -> x.chance(0, 4, v));
        bounds("chance(4, 0, v) at first", NEW, 0, 0, (x, v) -> x.chance(4, 0, v));
        bounds("sure(man, ..)", FULL_LIFE, 0, 2, (x, man) -> x.sure(man, 4, 0));
        bounds("sure(.., set, ..)", FULL_LIFE, 1, 1023, (x, set) -> x.sure(2, set, 0));
        bounds("sure(.., t)", FULL_LIFE, 0, 999, (x, t) -> x.sure(2, 4, t));
        bounds("last(man, ..)", FULL_LIFE, 0, 2, (x, man) -> x.last(man, 4, 1));
        bounds("last(.., set, ..)", FULL_LIFE, 1, 1023, (x, set) -> x.last(2, set, 1));
        bounds("last(.., k)", FULL_LIFE, 1, 10, (x, k) -> x.last(2, 4, k));
    }

    private static void boundsOfWhatIsLeft() {
        bounds("lost(t, ..)", FULL_LIFE, 0, 999, (x, t) -> x.lost(t, 0));
        bounds("lost(t, 1)", FULL_LIFE, 0, 999, (x, t) -> x.lost(t, 1));
        bounds("lost(.., what)", FULL_LIFE, 0, 1, (x, what) -> x.lost(70, what));
    }

    private static void boundsOfChainsAndPlaces() {
        bounds("loads(r, ..)", FULL_LIFE, 0, 7, (x, r) -> x.loads(r, 1, 1, 0));
        bounds("loads(.., n, ..)", FULL_LIFE, 1, 40, (x, n) -> x.loads(1, n, 9, 0));
        bounds("loads(.., n, .., 1)", FULL_LIFE, 1, 40, (x, n) -> x.loads(1, n, 9, 1));
        bounds("loads(.., t, ..)", FULL_LIFE, 0, 999, (x, t) -> x.loads(1, 9, t, 0));
        bounds("loads(.., t, 1)", FULL_LIFE, 0, 999, (x, t) -> x.loads(1, 9, t, 1));
        bounds("loads(.., what)", FULL_LIFE, 0, 1, (x, what) -> x.loads(1, 9, 9, what));
        bounds("edge(r, ..)", FULL_LIFE, 0, 7, (x, r) -> x.edge(r, 50));
        bounds("edge(.., t)", FULL_LIFE, 0, 999, (x, t) -> x.edge(1, t));
        bounds("place(b, ..)", FULL_LIFE, 0, 9, (x, b) -> x.place(b, 9));
        bounds("place(.., slots)", FULL_LIFE, 1, 9, (x, slots) -> x.place(9, slots));
    }

    private static void boundsOfKindsAndImages() {
        bounds("price(kind, ..)", FULL_LIFE, 0, 5, NO_PRICE, (x, kind) -> x.price(kind, 9));
        bounds("price(.., b)", FULL_LIFE, 0, 9, NO_PRICE, (x, b) -> x.price(5, b));
        bounds("keep(image)", FULL_LIFE, 0, 1, CarryFirst::keep);
        bounds("back(image)", FULL_LIFE, 0, 1, CarryFirst::back);
    }

    // ---- there is no such thing

    /** In a new object there is neither WAY nor BUNDLE nor man, and one ROOM. */
    private static void thereIsNoSuchThing() {
        Call[] none = {
            (x, n) -> x.way(n, 0), (x, n) -> x.bundle(n, 0), (x, n) -> x.fetch(n, 1), (x, n) -> x.fetch(0, n), (x, n) -> x.why(n, 1),
            (x, n) -> x.why(0, n), (x, n) -> x.man(n, 0), (x, n) -> x.one(n, 0), (x, n) -> x.sure(n, 1, 0), (x, n) -> x.sure(0, n, 0),
            (x, n) -> x.last(n, 1, 1), (x, n) -> x.last(0, n, 1), (x, n) -> x.place(n, 1)};
        // a bound under which nothing is taken
        for (int i = 0; i < none.length; i++) bounds("call " + i + " of a new object", NEW, 0, -1, none[i]);
        bounds("price(0, b) of a new object", NEW, 0, -1, NO_PRICE, (x, b) -> x.price(0, b));
        bounds("room(r, 0) of a new object", NEW, 0, 0, (x, r) -> x.room(r, 0));
        bounds("loads(r, ..) of a new object", NEW, 0, 0, (x, r) -> x.loads(r, 1, 1, 0));
        bounds("edge(r, 1) of a new object", NEW, 0, 0, (x, r) -> x.edge(r, 1));
        bounds("all(m) of a new object", NEW, -1, -1, CarryFirst::all);
        // a set with one BUNDLE that is there and one that is not
        Supplier<CarryFirst> two = () -> Checks.in("rooms 1;bundle 0 1 1 1;bundle 0 1 1 1;man 9;");
        bounds("fetch(0, set) of two", two, 1, 3, (x, set) -> x.fetch(0, set));
        bounds("why(0, set) of two", two, 1, 3, (x, set) -> x.why(0, set));
        bounds("sure(0, set, 0) of two", two, 1, 3, (x, set) -> x.sure(0, set, 0));
        bounds("last(0, set, 1) of two", two, 1, 3, (x, set) -> x.last(0, set, 1));
        Checks.due("fetch(1, 1)", two.get().fetch(1, 1), BAD);
    }

    // ---- in which order

    private static void badAheadOfState() {
        // DOOR SHUT: no way to ROOM 1
        Supplier<CarryFirst> shut = () -> {
            CarryFirst x = NO_WAY.get();
            x.tune(4, 1);
            return x;
        };
        Checks.due("loads(1, 1, 1, 0)", shut.get().loads(1, 1, 1, 0), STATE);
        bounds("loads(1, n, ..), no way", shut, 1, 40, (x, n) -> x.loads(1, n, 1, 0));
        bounds("loads(1, .., t, ..), no way", shut, 0, 999, (x, t) -> x.loads(1, 1, t, 0));
        bounds("loads(1, .., what), no way", shut, 0, 1, (x, what) -> x.loads(1, 1, 1, what));
        Checks.due("edge(1, 1)", shut.get().edge(1, 1), STATE);
        bounds("edge(1, t), no way", shut, 0, 999, (x, t) -> x.edge(1, t));
        Checks.due("doors(0)", NO_WAY.get().doors(0), STATE);
        bounds("doors(what), no man", NO_WAY, 0, 1, CarryFirst::doors);
        Checks.due("back(0)", NO_WAY.get().back(0), STATE);
        bounds("back(image), none kept", NO_WAY, 0, 1, CarryFirst::back);
        // what was fetched is refused, but no man 3 is told of first
        CarryFirst x = inTheMiddle();
        Checks.due("fetch(0, 1)", x.fetch(0, 1), STATE);
        Checks.due("fetch(3, 1)", x.fetch(3, 1), BAD);
        Checks.due("fetch(0, 1025)", x.fetch(0, 1025), BAD);
    }

    private static void badAheadOfFull() {
        Checks.due("type(1, 1)", FULL_TEXT.get().type(1, 1), FULL);
        bounds("type(.., n) of a full text", FULL_TEXT, 1, 8, (x, n) -> x.type(-1, n));
    }

    // ---- refused for another reason

    private static void changesNothing(String name, Supplier<CarryFirst> maker, Call call, int number, int want) {
        CarryFirst x = maker.get();
        for (int i = 0; i < 2; i++) Checks.due(name, call.of(x, number), want);
        Checks.due(name + " changes nothing", toldBy(x).equals(told(maker)) ? 1 : 0, 1);
    }

    private static void stateChangesNothing() {
        // WEIGHT 10 at LOAD 9; ROOMS 2 and 3; ..
        changesNothing("fetch() of what is too heavy", FULL_LIFE, (x, set) -> x.fetch(0, set), 512, STATE);
        changesNothing("fetch() of several ROOMS", FULL_LIFE, (x, set) -> x.fetch(1, set), 4 + 8, STATE);
        changesNothing("fetch() of what was fetched", FULL_LIFE, (x, set) -> x.fetch(2, set), 1, STATE);
        changesNothing("fetch() of what was fetched, in part", FULL_LIFE, (x, set) -> x.fetch(2, set), 4 + 512, STATE);
        changesNothing("fetch() that is not SAFE", BoundsTest::tooLate, (x, set) -> x.fetch(2, set), 64, STATE);
        changesNothing("fetch() where there is no way", BoundsTest::shutOff, (x, set) -> x.fetch(2, set), 64, STATE);
        changesNothing("loads() where there is no way", BoundsTest::shutOff, (x, r) -> x.loads(r, 1, 1, 1), 6, STATE);
        changesNothing("edge() where there is no way", BoundsTest::shutOff, (x, r) -> x.edge(r, 1), 6, STATE);
        changesNothing("doors() without a man", NO_WAY, CarryFirst::doors, 0, STATE);
        changesNothing("doors() without a man", NO_WAY, CarryFirst::doors, 1, STATE);
        changesNothing("back() of what was not kept", NO_WAY, CarryFirst::back, 0, STATE);
        changesNothing("back() of what was not kept", NO_WAY, CarryFirst::back, 1, STATE);
    }

    /** LEAVE of ROOM 6 is 60 less 30; he would be there in 20 and 17. */
    private static CarryFirst tooLate() {
        CarryFirst x = inTheMiddle();
        Checks.due("fetch(2, 8)", x.fetch(2, 8), 20);
        x.tune(2, 30);
        Checks.due("why(2, 64)", x.why(2, 64), 5);
        return x;
    }

    /** To ROOM 6 there is WAY 1 alone, and its DOOR is SHUT. */
    private static CarryFirst shutOff() {
        CarryFirst x = Checks.in("rooms 7;way 0 1 2;way 1 6 2 door;bundle 0 1 1 1;bundle 1 2 2 2;" + "bundle 1 1 1 1;".repeat(4)
            + "bundle 6 3 3 3;man 9;man 9;man 9;fire 1 50;");
        x.fetch(0, 2);
        x.keep(1);
        x.tune(4, 2);
        Checks.due("why(2, 64)", x.why(2, 64), 4);
        return x;
    }

    private static void fullChangesNothing() {
        for (int n = 1; n <= 8; n++) changesNothing("type() of a full text", FULL_TEXT, (x, k) -> x.type(-1, k), n, FULL);
    }
}
