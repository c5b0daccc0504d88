/** Promises 14 to 17. */
public final class MostTest {
    public static void main(String[] args) {
        promise14One();
        promise14TheLeastSet();
        promise14TheFirstFetching();
        promise14FromNow();
        promise15All();
        promise15TheLeastSets();
        promise16Run();
        promise16Rules();
        promise16Stair();
        promise16TooLate();
        promise17Doors();
        promise17FromTheBeginning();
        Checks.end();
    }

    private static void due(String call, long got, long want) {
        Checks.due(call, got, want);
    }

    private static void promise14One() {
        // ROOM 2 must be left first: LEAVE 6, 12 in ROOM 1; back from 2 by MINUTE 7, from 1 by 12
        String house = "rooms 3;way 0 1 1;way 0 2 2;bundle 1 5 8 0;bundle 1 5 9 0;bundle 2 5 7 0;bundle 2 5 6 0;man ";
        String fires = "fire 2 8;fire 1 14;fire 0 99;";
        CarryFirst x = Checks.in(house + "5;" + fires);
        x.tune(0, 9);
        due("room(2, 3)", x.room(2, 3), 6);
        due("room(1, 3)", x.room(1, 3), 12);
        Checks.dueOne("one at a time", x, 0, 24, 7, 1, 8);
        Checks.dueOne("two at a time", Checks.in(house + "10;" + fires), 0, 30, 15, 3, 6);
        Checks.dueOne("none at all", Checks.in(house + "4;" + fires), 0, 0, 0, 0, 0);
        due("one(1, 0)", x.one(1, 0), -1);
        due("one(-1, 0)", x.one(-1, 0), -1);
        due("one(0, 4)", x.one(0, 4), -1);
        due("one(0, -1)", x.one(0, -1), -1);
        due("one(0, 0) without a man", new CarryFirst().one(0, 0), -1);
    }

    private static void promise14TheLeastSet() {
        CarryFirst x = Checks.in("rooms 2;way 0 1 2;bundle 1 3 0 0;bundle 1 3 4 0;bundle 1 4 5 0;bundle 1 2 4 0;bundle 1 5 9 0;"
            + "man 6;fire 0 7;");
        // one FETCHING alone; 9 by set 16, or by 12
        Checks.dueOne("one FETCHING", x, 0, 9, 12, 12, 4);
        Checks.dueOne("worth nothing in ROOM 0", Checks.in("rooms 1;bundle 0 1 0 0;bundle 0 1 5 0;man 2;"), 0, 5, 2, 2, 0);
        Checks.dueOne("worth nothing", Checks.in("rooms 1;bundle 0 1 0 0;man 1;"), 0, 0, 0, 0, 0);
    }

    private static void promise14TheFirstFetching() {
        // two times of three BUNDLES: 3 first, then 4, or 4 first, or 1 first, then 6 ..
        Checks.dueOne("least first", Checks.in("rooms 2;way 0 1 2;bundle 1 5 1 0;bundle 1 2 1 0;bundle 1 5 1 0;man 8;"), 0, 3, 7, 1, 8);
        // 1 first would need three times
        Checks.dueOne("fewest MINUTES first", Checks.in("rooms 2;way 0 1 2;bundle 1 2 1 0;bundle 1 5 1 0;bundle 1 4 1 0;man 7;"), 0,
            3, 7, 2, 8);
        // twice will do, but not with the two heavy ones together
        Checks.dueOne("not too heavy", Checks.in("rooms 2;way 0 1 2;bundle 1 3 1 0;bundle 1 3 1 0;bundle 1 2 1 0;bundle 1 2 1 0;man 5;"), 0,
            4, 15, 5, 8);
        Checks.dueOne("of one ROOM", Checks.in("rooms 3;way 0 1 1;way 0 2 1;bundle 1 1 1 0;bundle 2 1 1 0;bundle 1 1 1 0;man 2;fire 1 4;"),
            0, 3, 7, 5, 4);
        // no time passes for ROOM 0: a single BUNDLE may be first
        Checks.dueOne("ROOM 0", Checks.in("rooms 1;bundle 0 1 1 0;bundle 0 1 1 0;man 2;"), 0, 2, 3, 1, 0);
        // the least must wait, as the other ROOM is left first
        Checks.dueOne("in time", Checks.in("rooms 3;way 0 1 1;way 0 2 1;bundle 1 1 1 0;bundle 2 1 1 0;man 1;fire 2 4;"), 0, 2, 3, 2, 4);
    }

    private static void promise14FromNow() {
        CarryFirst x = Checks.in("rooms 2;way 0 1 2 door;bundle 1 5 5 0;bundle 1 5 6 0;bundle 1 5 7 0;man 5;man 5;fire 0 16;");
        Checks.dueOne("at first", x, 0, 18, 7, 1, 12);
        x.fetch(0, 4);
        Checks.dueOne("then", x, 0, 11, 3, 1, 12);
        Checks.dueOne("the other", x, 1, 11, 3, 1, 8);
        x.tune(2, 6);
        Checks.dueOne("more SMOKE", x, 0, 6, 2, 2, 8);
        x.tune(4, 1);
        Checks.dueOne("no way", x, 0, 0, 0, 0, 4);
        due("saved(1)", x.saved(1), 4);
    }

    private static void promise15All() {
        // each can go once; the strong one alone can carry the heavy ones
        CarryFirst x = Checks.in("rooms 2;way 0 1 2;bundle 1 5 5 0;bundle 1 9 6 0;bundle 1 2 3 0;bundle 1 3 4 0;"
            + "man 5;man 9;man 2;fire 0 7;");
        Checks.dueAll("three", x, 14, 1, 2, 4);
        x.fetch(1, 2);
        Checks.dueAll("man 1 is late", x, 8, 1, 0, 4);
        x.anew();
        Checks.dueAll("anew", x, 14, 1, 2, 4);
        due("all(3)", x.all(3), -1);
        due("all(-2)", x.all(-2), -1);
        CarryFirst none = Checks.in("rooms 1;bundle 0 1 1 1;");
        due("all(-1)", none.all(-1), 0);
        due("all(0)", none.all(0), -1);
        Checks.dueAll("too weak", Checks.in("rooms 1;bundle 0 5 3 0;man 1;man 9;"), 3, 0, 1);
        Checks.dueAll("too weak", Checks.in("rooms 1;bundle 0 5 3 0;man 1;man 1;man 9;"), 3, 0, 0, 1);
        Checks.dueAll("alone", Checks.in("rooms 1;bundle 0 2 3 0;bundle 0 9 4 0;man 8;"), 3, 1);
    }

    private static void promise15TheLeastSets() {
        // man 0 leaves all to the others, where they can
        Checks.dueAll("never", Checks.in("rooms 1;bundle 0 1 1 0;bundle 0 1 1 0;man 1;man 1;"), 2, 0, 3);
        Checks.dueAll("never", Checks.in("rooms 1;bundle 0 1 1 0;bundle 0 1 1 0;man 1;man 1;man 1;"), 2, 0, 0, 3);
        Checks.dueAll("once each", Checks.in("rooms 2;way 0 1 2;bundle 1 1 1 0;bundle 1 1 1 0;bundle 1 1 0 0;man 1;man 1;fire 0 7;"),
            2, 1, 2);
        Checks.dueAll("of three alike the first two",
            Checks.in("rooms 2;way 0 1 2;bundle 1 1 3 0;bundle 1 1 3 0;bundle 1 1 3 0;man 1;man 1;fire 0 7;"), 6, 1, 2);
        Checks.dueAll("man 2 comes last",
            Checks.in("rooms 2;way 0 1 2;bundle 1 1 3 0;bundle 1 2 3 0;bundle 1 3 3 0;man 3;man 3;man 3;fire 0 7;"),
            9, 0, 3, 4);
    }

    private static void promise16Run() {
        CarryFirst x = Checks.in("rooms 3;way 0 1 3;way 1 2 2;bundle 1 20 5 0;bundle 1 15 7 0;bundle 1 10 7 0;bundle 2 31 99 0;"
            + "bundle 2 30 0 0;");
        // two: ROOM 1 first of all: 2 and 4 by WORTH, back in 6; then 1, back in 13; then ROOM 2
        Checks.dueRun("near", x, 0, 1, 19, 23, 24);
        Checks.dueRun("close", x, 2, 1, 19, 23, 24);
        Checks.dueRun("rich", x, 1, 1, 19, 23, 24);
        Checks.dueRun("two", x, 0, 2, 19, 23, 17);
        Checks.dueRun("three", x, 0, 3, 19, 23, 10);
        Checks.dueRun("nine", x, 0, 9, 19, 23, 10);
        int[][] bad = {{-1, 1, 0}, {3, 1, 0}, {0, 0, 0}, {0, 10, 0}, {0, 1, -1}, {0, 1, 3}};
        for (int[] a : bad) due("run(" + a[0] + ", " + a[1] + ", " + a[2] + ")", x.run(a[0], a[1], a[2]), -1);
        // THE PLAN is let alone, and lets alone
        CarryFirst y = Checks.in("rooms 2;way 0 1 3;bundle 1 1 5 0;man 1;fire 0 9;");
        y.fetch(0, 1);
        Checks.dueRun("nothing fetched", y, 0, 1, 5, 1, 6);
        due("saved(2)", y.saved(2), 6);
        due("saved(1)", y.saved(1), 1);
    }

    private static void promise16Rules() {
        // ROOM 1: near the fire; ROOM 2: rich; ROOM 3: close; time for one FETCHING of one man
        String house = "rooms 4;way 0 1 4;way 0 2 3;way 0 3 1;bundle 1 30 2 0;bundle 2 30 9 0;bundle 3 30 1 0;bundle 3 31 50 0;"
            + "fire 1 7;fire 2 9;fire 3 9;fire 0 11;";
        CarryFirst x = Checks.in(house);
        x.tune(0, 9);
        Checks.dueRun("near", x, 0, 1, 2, 1, 8);
        Checks.dueRun("rich", x, 1, 1, 9, 2, 6);
        Checks.dueRun("close", x, 2, 1, 1, 4, 2);
        // of several the least ROOM; those never left last
        CarryFirst y = Checks.in("rooms 4;way 1 0 2;way 2 0 2;way 3 0 9;bundle 3 1 5 0;bundle 2 1 5 0;bundle 1 1 5 0;fire 0 8;");
        Checks.dueRun("least ROOM", y, 0, 1, 5, 4, 4);
        Checks.dueRun("least ROOM", y, 1, 1, 5, 4, 4);
        Checks.dueRun("least ROOM", y, 2, 1, 5, 4, 4);
        CarryFirst never = Checks.in("rooms 3;way 0 1 1 door;way 0 2 2;bundle 1 30 1 0;bundle 2 30 1 0;");
        Checks.dueRun("never left", never, 0, 1, 2, 3, 7);
        Checks.dueRun("the first is rich", Checks.in("rooms 3;way 0 1 2;way 0 2 2;bundle 2 1 9 0;bundle 1 1 5 0;fire 0 7;"), 1, 1, 9, 1, 4);
        Checks.dueRun("hardly rich", Checks.in("rooms 3;way 0 1 2;way 0 2 2;bundle 1 1 0 0;bundle 2 1 1 0;fire 0 7;"), 1, 1, 1, 2, 4);
        // by WORTH, of several the first, each that can be carried with those before
        Checks.dueRun("greedy", Checks.in("rooms 2;way 0 1 2;bundle 1 20 3 0;bundle 1 11 4 0;bundle 1 10 3 0;bundle 1 9 1 0;fire 0 7;"),
            0, 1, 8, 14, 4);
        Checks.dueRun("the first", Checks.in("rooms 2;way 0 1 2;bundle 1 20 3 0;bundle 1 20 3 0;bundle 1 10 1 0;fire 0 7;"), 0, 1, 4, 5, 4);
    }

    private static void promise16Stair() {
        CarryFirst x = Checks.in("rooms 2;way 0 1 2;" + "bundle 1 30 1 0;".repeat(5));
        x.tune(3, 1);
        // out in 4, 5, 6; the first is free in 5, the second in 6, back in 9, 10
        Checks.dueRun("one a MINUTE", x, 0, 3, 5, 31, 10);
        Checks.dueRun("five, one a MINUTE", x, 0, 5, 5, 31, 8);
        x.tune(3, 2);
        Checks.dueRun("two a MINUTE", x, 0, 5, 5, 31, 6);
        x.tune(3, 9);
        Checks.dueRun("nine a MINUTE", x, 0, 5, 5, 31, 4);
        CarryFirst hall = Checks.in("rooms 1;" + "bundle 0 30 1 0;".repeat(10));
        Checks.dueRun("out in 0, 1, ..", hall, 0, 1, 10, 1023, 9);
        Checks.dueRun("two in 0, 1, ..", hall, 0, 9, 10, 1023, 4);
        hall.tune(3, 1);
        Checks.dueRun("one in 0, 1, ..", hall, 1, 9, 10, 1023, 9);
        hall.tune(3, 9);
        Checks.dueRun("nine in 0, one in 1", hall, 2, 9, 10, 1023, 1);
        // one who is back sooner, but set out later, finds a MINUTE between
        CarryFirst y = Checks.in("rooms 3;way 0 1 5;way 0 2 2;bundle 2 30 9 0;bundle 1 30 8 0;bundle 0 30 7 0;bundle 2 30 1 0;");
        y.tune(3, 1);
        // man 0 out in 4, man 1 in 10, man 2 in 0; he is free in 1, back in 5
        Checks.dueRun("between", y, 1, 3, 25, 15, 10);
    }

    private static void promise16TooLate() {
        Checks.dueRun("no way", Checks.in("rooms 2;bundle 1 1 1 0;"), 0, 9, 0, 0, 0);
        Checks.dueRun("too heavy", Checks.in("rooms 1;bundle 0 31 1 0;"), 1, 9, 0, 0, 0);
        Checks.dueRun("burnt", Checks.in("rooms 1;bundle 0 1 1 0;fire 0 2;"), 2, 9, 0, 0, 0);
        Checks.dueRun("in MINUTE 0", Checks.in("rooms 1;bundle 0 1 1 0;fire 0 3;"), 2, 9, 1, 1, 0);
        // he is free in 5, which is too late; another begins in 0
        String house = "rooms 2;way 0 1 2;bundle 1 30 1 0;bundle 1 30 1 0;fire 0 10;";
        Checks.dueRun("one", Checks.in(house), 2, 1, 1, 1, 4);
        Checks.dueRun("two", Checks.in(house), 2, 2, 2, 3, 4);
        CarryFirst x = Checks.in("rooms 2;way 0 1 2 door;bundle 1 30 1 0;");
        x.tune(4, 1);
        Checks.dueRun("shut", x, 2, 1, 0, 0, 0);
    }

    private static void promise17Doors() {
        // a fire behind the DOOR 1; DOOR 0 is on the only way
        CarryFirst x = Checks.in("rooms 3;way 0 1 3 door;way 1 2 2 door;bundle 1 5 6 0;bundle 1 5 5 0;man 5;fire 2 2;");
        x.tune(0, 1);
        due("doors(0)", x.doors(0), 2);
        due("doors(1)", x.doors(1), 11);
        due("one(0, 0)", x.one(0, 0), 0);
        due("doors(1), in MINUTE 0 alone", Checks.in("rooms 2;way 0 1 2;bundle 1 1 4 0;man 1;fire 0 7;").doors(1), 4);
        x.tune(1, 0);
        due("doors(0) without HOLD", x.doors(0), 0);
        due("doors(1) without HOLD", x.doors(1), 0);
        due("doors(2)", x.doors(2), -1);
        due("doors(-1)", x.doors(-1), -1);
        CarryFirst none = Checks.in("rooms 2;way 0 1 3 door;bundle 0 1 1 0;");
        due("doors(0)", none.doors(0), -2);
        due("doors(1)", none.doors(1), -2);
        due("doors(2)", none.doors(2), -1);
        // bits of WAYS; the least of several
        CarryFirst y = Checks.in("rooms 4;way 0 1 3;way 1 2 1 door;way 1 3 1;way 2 3 1 door;way 2 3 1 door;"
            + "bundle 1 5 6 0;man 5;fire 2 1;");
        due("doors(0), one DOOR", y.doors(0), 2);
        y.tune(0, 1);
        due("doors(0)", y.doors(0), 26);
        due("doors(1)", y.doors(1), 6);
        // man 0's LOAD counts
        CarryFirst z = Checks.in("rooms 2;way 0 1 3 door;bundle 0 7 3 0;man 6;man 9;");
        due("doors(1)", z.doors(1), 0);
        due("doors(0)", z.doors(0), 0);
    }

    private static void promise17FromTheBeginning() {
        CarryFirst x = Checks.in("rooms 2;way 0 1 3 door;bundle 1 5 6 0;man 5;fire 0 12;");
        x.fetch(0, 1);
        x.tune(4, 1);
        due("doors(0)", x.doors(0), 0);
        due("doors(1)", x.doors(1), 6);
        due("way(0, 4)", x.way(0, 4), 1);
        due("room(1, 0)", x.room(1, 0), -9);
        due("man(0, 1)", x.man(0, 1), 6);
    }
}
