/** Promises 1 to 8 and 28. */
public final class HouseTest {
    private static final String FLAT =
        "rooms 5;way 0 1 2;way 1 2 3 door;way 0 3 4;way 3 2 1;way 3 4 1 door;"
        + "bundle 2 10 30 2;bundle 4 99 0 10;man 30;man 20;fire 4 8;fire 2 30;";

    public static void main(String[] args) {
        promise1NewObject();
        promise2Type();
        promise3Clear();
        promise4House();
        promise4Faults();
        promise4NothingChanges();
        promise4Anew();
        promise4OneBehindAnother();
        promise5Way();
        promise6Bundle();
        promise7Tune();
        promise8Room();
        promise8Doors();
        promise8ShutAsShort();
        promise28Count();
        Checks.end();
    }

    private static void due(String call, long got, long want) {
        Checks.due(call, got, want);
    }

    private static void promise1NewObject() {
        due("BAD", CarryFirst.BAD, -1);
        due("STATE", CarryFirst.STATE, -2);
        due("FULL", CarryFirst.FULL, -3);
        due("NONE", CarryFirst.NONE, -9);
        CarryFirst x = new CarryFirst();
        long[] counts = {1, 0, 0, 0, 0, 0};
        for (int what = 0; what < 6; what++) due("count(" + what + ")", x.count(what), counts[what]);
        due("room(0, 0)", x.room(0, 0), 0);
        due("room(0, 1)", x.room(0, 1), -9);
        due("room(0, 2)", x.room(0, 2), -9);
        due("room(0, 3)", x.room(0, 3), -9);
        due("room(1, 0)", x.room(1, 0), -1);
        due("saved(2)", x.saved(2), 0);
        due("anew()", x.anew(), 0);
        due("all(-1)", x.all(-1), 0);
        due("run(0, 9, 2)", x.run(0, 9, 2), 0);
        due("doors(0)", x.doors(0), -2);
        due("lost(999, 0)", x.lost(999, 0), 0);
        due("back(0)", x.back(0), -2);
        due("trace()", x.trace(), 0);
        long[] tunes = {3, 20, 2, 2, 0};
        for (int what = 0; what < 5; what++) due("tune(" + what + ", 1)", x.tune(what, 1), tunes[what]);
        due("chance(0, 1, 10)", x.chance(0, 1, 10), 10);
    }

    private static void promise2Type() {
        CarryFirst x = new CarryFirst();
        due("type(1, 0)", x.type(1, 0), -1);
        due("type(1, 9)", x.type(1, 9), -1);
        due("type(1, -1)", x.type(1, -1), -1);
        // the lowest bytes alone, the highest of them first
        long rooms = 'r' * 0x100000000L + 'o' * 0x1000000L + 'o' * 0x10000L + 'm' * 0x100L + 's';
        due("type(.., 5)", x.type(0x7f00000000000000L | rooms, 5), 5);
        due("type(4;, 2)", x.type(0xffffffffffff0000L | '4' << 8 | ';', 2), 7);
        due("house()", x.house(), 1);
        due("count(0)", x.count(0), 4);
        due("count(5)", x.count(5), 0);
        for (int i = 1; i <= 49; i++) due("type(-1, 8)", x.type(-1, 8), 8 * i);
        due("type(0, 7)", x.type(0, 7), 399);
        due("type(0, 2)", x.type(0, 2), -3);
        due("type(0, 9)", x.type(0, 9), -1);
        due("count(5)", x.count(5), 399);
        due("type(0, 1)", x.type(0, 1), 400);
        due("type(0, 1)", x.type(0, 1), -3);
        due("house()", x.house(), -10);
    }

    private static void promise3Clear() {
        CarryFirst x = new CarryFirst();
        due("clear()", x.clear(), 0);
        Checks.type(x, "rooms 7;x");
        due("clear()", x.clear(), 9);
        due("clear()", x.clear(), 0);
        due("count(5)", x.count(5), 0);
        due("count(0)", x.count(0), 1);
        Checks.read(x, "rooms 3;");
        due("count(0)", x.count(0), 3);
    }

    private static void promise4House() {
        Checks.dueItems("", 0);
        Checks.dueItems("   ", 0);
        Checks.dueItems("rooms 8;", 1);
        Checks.dueItems("  rooms  8  ;  ", 1);
        Checks.dueItems("rooms8;way0 7 30door;bundle7 99 99 10;man99;fire7 99;", 5);
        Checks.dueItems("rooms 1;bundle 0 1 0 0;fire 0 0;man 1;", 4);
        Checks.dueItems("rooms 2;way 0 1 1;way 1 0 1;way 0 1 30 door;", 4);
        CarryFirst x = Checks.in("rooms 2;way 0 1 3;");
        due("house() of nothing", x.house(), 0);
        due("count(0)", x.count(0), 1);
        due("count(1)", x.count(1), 0);
        Checks.read(x, "rooms 7;");
        Checks.read(x, "rooms 6;");
        due("house() of nothing", x.house(), 0);
        due("count(0)", x.count(0), 1);
        String ways = "rooms 2;" + "way 0 1 1;".repeat(6) + "way 0 1 1 door;".repeat(6);
        Checks.dueItems(ways, 13);
        Checks.dueItems("rooms 2;" + "bundle 0 1 1 1;".repeat(10) + "man 1;".repeat(3) + "fire 0 1;".repeat(4), 18);
    }

    private static void promise4Faults() {
        dueFault("rooms", 5);
        dueFault("rooms  ", 7);
        dueFault("rooms 2", 7);
        dueFault("roo", 0);
        dueFault("  room 2;", 2);
        dueFault("roomsx 2;", 0);
        dueFault("rooms 0;", 6);
        dueFault("rooms 9;", 6);
        dueFault("rooms 02;", 6);
        dueFault("rooms 00;", 6);
        dueFault("rooms 100;", 6);
        dueFault("rooms 2 3;", 8);
        dueFault("rooms ;", 6);
        dueFault("rooms rooms;", 6);
        dueFault("Rooms 2;", 0);
        dueFault("xooms 2;", 0);
        dueFault("roomsz 2;", 0);
        dueFault("roomsa 2;", 0);
        dueFault("rooms 2;zan 1;", 8);
        dueFault("rooms -2;", 6);
        dueFault("rooms\t2;", 5);
        dueFault("rooms 2;" + (char) 233, 8);
        dueFault("rooms 2;" + (char) 0, 8);
        dueFault("man 5;rooms 2;", 0);
        dueFault(";", 0);
        dueFault("7", 0);
        dueFault("door;", 0);
        dueFault("rooms 2;rooms 2;", 8);
        dueFault("rooms 2;;", 8);
        dueFault("rooms 2; 1", 9);
        dueFault("rooms 2;door;", 8);
        dueFault("rooms 1;way 0 0 1;", 14);
        dueFault("rooms 1;way 1 0 1;", 12);
        dueFault("rooms 2;way 1 1 1;", 14);
        dueFault("rooms 2;way 0 2 1;", 14);
        dueFault("rooms 2;way 2 0 1;", 12);
        dueFault("rooms 2;way 0 1 0;", 16);
        dueFault("rooms 2;way 0 1 31;", 16);
        dueFault("rooms 2;way 0 1 1 doors;", 18);
        dueFault("rooms 2;way 0 1 1 way;", 18);
        dueFault("rooms 2;way 0 1 1 door door;", 23);
        dueFault("rooms 2;way 0 1 1 door", 22);
        dueFault("rooms 2;way 0 1;", 15);
        dueFault("rooms 2;way 0", 13);
        dueFault("rooms 2;bundle 2 1 1 1;", 15);
        dueFault("rooms 2;bundle 1 0 1 1;", 17);
        dueFault("rooms 2;bundle 1 1 100 1;", 19);
        dueFault("rooms 2;bundle 1 1 1 11;", 21);
        dueFault("rooms 2;bundle 1 1 1 1 1;", 23);
        dueFault("rooms 2;man 0;", 12);
        dueFault("rooms 2;man 05;", 12);
        dueFault("rooms 2;fire 2 1;", 13);
        dueFault("rooms 2;fire 1 100;", 15);
        dueFault("rooms 2;fire 1 1 door;", 17);
        // 400 bytes, up to the end
        String long400 = "rooms 2;" + " ".repeat(387) + "man 1";
        dueFault(long400, 400);
        dueFault("rooms 2;" + " ".repeat(389) + "man", 400);
        dueFault("rooms 2" + " ".repeat(393), 400);
        Checks.dueItems("rooms 2;" + " ".repeat(392), 1);
        // bytes that were there before are none of the text's
        dueFaultBehind("rooms 22", "rooms 2", 7);
        dueFaultBehind("rooms2", "room", 0);
        dueFaultBehind("rooms  2;", "rooms ", 6);
        String one = "rooms 2;" + "way 0 1 1;".repeat(12);
        dueFault(one + "way 0 1 1;", one.length());
        String two = "rooms 2;" + "way 0 1 1 door;".repeat(6) + "way 0 1 1;way 0 1 1 ";
        dueFault(two + "door;", two.length());
        String three = "rooms 2;" + "bundle 0 1 1 1;".repeat(10);
        dueFault(three + " bundle", three.length() + 1);
        String four = "rooms 2;man 1;man 1;man 1;";
        dueFault(four + "man 1;", four.length());
        String five = "rooms 2;" + "fire 0 0;".repeat(4);
        dueFault(five + "fire 0 0;", five.length());
    }

    private static void promise4NothingChanges() {
        CarryFirst x = Checks.in(FLAT);
        due("fetch(0, 1)", x.fetch(0, 1), 10);
        due("tune(4, 2)", x.tune(4, 2), 0);
        due("keep(1)", x.keep(1), 1);
        Checks.type(x, "rooms 1;man 7;way 0 0 1;");
        due("house()", x.house(), -30);
        due("count(5)", x.count(5), 24);
        due("house()", x.house(), -30);
        long[] counts = {5, 5, 2, 2, 2};
        for (int what = 0; what < 5; what++) due("count(" + what + ")", x.count(what), counts[what]);
        due("saved(1)", x.saved(1), 1);
        due("man(0, 0)", x.man(0, 0), 30);
        due("way(1, 4)", x.way(1, 4), 1);
        due("back(1)", x.back(1), 1);
        // what stands of a text may be typed on
        CarryFirst y = new CarryFirst();
        Checks.type(y, "rooms 2");
        due("house()", y.house(), -17);
        Checks.type(y, ";");
        due("house()", y.house(), 1);
    }

    private static void promise4Anew() {
        CarryFirst x = Checks.in(FLAT);
        x.tune(0, 9);
        x.tune(1, 90);
        x.tune(2, 0);
        x.tune(3, 7);
        x.tune(4, 18);
        x.chance(0, 4, 3);
        x.fetch(0, 1);
        x.keep(0);
        x.keep(1);
        x.price(5, 0);
        Checks.read(x, FLAT);
        due("saved(1)", x.saved(1), 0);
        due("saved(2)", x.saved(2), 0);
        due("man(0, 1)", x.man(0, 1), 0);
        due("way(1, 4)", x.way(1, 4), 0);
        due("way(4, 4)", x.way(4, 4), 0);
        due("back(0)", x.back(0), -2);
        due("back(1)", x.back(1), -2);
        due("trace()", x.trace(), 100001);
        due("chance(4, 4, 0)", x.chance(4, 4, 0), 3);
        long[] tunes = {9, 90, 0, 7, 0};
        for (int what = 0; what < 5; what++) due("tune(" + what + ", 1)", x.tune(what, 1), tunes[what]);
    }

    private static void promise4OneBehindAnother() {
        String big = "rooms 8;way 0 1 1 door;way 0 1 1 door;way 0 1 1 door;way 0 1 1 door;way 0 1 1 door;way 0 1 1 door;"
            + "bundle 7 1 1 1;bundle 1 30 2 1;bundle 0 3 3 1;man 30;man 2;man 3;fire 1 0;fire 1 0;fire 1 0;fire 1 0;";
        String small = "rooms 3;way 0 2 1;way 1 2 2 door;bundle 0 1 9 1;bundle 2 2 7 1;man 2;";
        CarryFirst x = Checks.in(big);
        for (int i = 0; i < 5; i++) {
            Checks.read(x, small);
            long[] counts = {3, 2, 2, 1, 0};
            for (int what = 0; what < 5; what++) due("count(" + what + ")", x.count(what), counts[what]);
            due("tune(4, 4095)", x.tune(4, 4095), 0);
            due("tune(4, 0)", x.tune(4, 0), 2);
            due("way(0, 3)", x.way(0, 3), 0);
            due("room(1, 0)", x.room(1, 0), 3);
            due("room(2, 2)", x.room(2, 2), -9);
            due("place(0, 1)", x.place(0, 1), 0);
            due("place(1, 1)", x.place(1, 1), 2);
            due("one(0, 1)", x.one(0, 1), 3);
            due("all(0)", x.all(0), 3);
            due("run(1, 1, 1)", x.run(1, 1, 1), 3);
            // a fault, too, leaves nothing behind
            Checks.type(x, big + "x");
            due("house() of a fault", x.house(), -10 - big.length());
            x.clear();
            if (i % 2 == 1) Checks.read(x, big);
        }
    }

    private static void promise5Way() {
        CarryFirst x = Checks.in("rooms 5;way 3 1 30 door;way 0 4 1;");
        long[][] rows = {{3, 1, 30, 1, 0}, {0, 4, 1, 0, 0}};
        for (int w = 0; w < 2; w++) {
            for (int what = 0; what < 5; what++) due("way(" + w + ", " + what + ")", x.way(w, what), rows[w][what]);
        }
        x.tune(4, 4095);
        due("way(0, 4)", x.way(0, 4), 1);
        due("way(1, 4)", x.way(1, 4), 0);
        due("way(2, 0)", x.way(2, 0), -1);
        due("way(-1, 0)", x.way(-1, 0), -1);
        due("way(0, 5)", x.way(0, 5), -1);
        due("way(0, -1)", x.way(0, -1), -1);
        due("way(2147483647, 4)", x.way(2147483647, 4), -1);
    }

    private static void promise6Bundle() {
        CarryFirst x = Checks.in(FLAT);
        long[][] rows = {{2, 10, 30, 2, 0}, {4, 99, 0, 10, 0}};
        for (int b = 0; b < 2; b++) {
            for (int what = 0; what < 5; what++) due("bundle(" + b + ", " + what + ")", x.bundle(b, what), rows[b][what]);
        }
        x.fetch(0, 1);
        due("bundle(0, 4)", x.bundle(0, 4), 1);
        due("bundle(1, 4)", x.bundle(1, 4), 0);
        due("bundle(2, 0)", x.bundle(2, 0), -1);
        due("bundle(-1, 0)", x.bundle(-1, 0), -1);
        due("bundle(0, 5)", x.bundle(0, 5), -1);
        due("bundle(0, -1)", x.bundle(0, -1), -1);
    }

    private static void promise7Tune() {
        CarryFirst x = Checks.in(FLAT);
        int[] least = {1, 0, 0, 1, 0};
        int[] most = {9, 90, 30, 9, 4095};
        long[] was = {3, 20, 2, 2, 0};
        for (int what = 0; what < 5; what++) {
            due("tune(" + what + ") too low", x.tune(what, least[what] - 1), -1);
            due("tune(" + what + ") too high", x.tune(what, most[what] + 1), -1);
            due("tune(" + what + ") least", x.tune(what, least[what]), was[what]);
            due("tune(" + what + ") most", x.tune(what, most[what]), least[what]);
        }
        // DOORS stand on WAYS 1 and 4
        due("tune(4, 2)", x.tune(4, 2), 18);
        due("tune(4, 13)", x.tune(4, 13), 2);
        due("tune(4, 16)", x.tune(4, 16), 0);
        due("tune(4, 0)", x.tune(4, 0), 16);
        due("tune(-1, 1)", x.tune(-1, 1), -1);
        due("tune(5, 1)", x.tune(5, 1), -1);
    }

    private static void promise8Room() {
        CarryFirst x = Checks.in(FLAT);
        // ROOM 2: by 1 and by 3 both 5; the least ROOM ahead is 1
        long[][] rows = {{0, -9, 23, 21}, {2, 0, 23, 21}, {5, 1, 14, 12}, {4, 0, 11, 9}, {5, 3, 8, 6}};
        dueRooms(x, rows);
        due("room(5, 0)", x.room(5, 0), -1);
        due("room(-1, 0)", x.room(-1, 0), -1);
        due("room(0, 4)", x.room(0, 4), -1);
        due("room(0, -1)", x.room(0, -1), -1);
        x.tune(0, 1);
        x.tune(2, 9);
        dueRooms(x, new long[][] {{0, -9, 13, 4}, {2, 0, 13, 4}, {5, 1, 10, 1}, {4, 0, 9, 0}, {5, 3, 8, 0}});
        // two WAYS between the same ROOMS, and a ROOM that nothing leads to
        CarryFirst y = Checks.in("rooms 4;way 1 0 9;way 0 1 4;way 2 1 1;fire 3 0;");
        dueRooms(y, new long[][] {{0, -9, -9, -9}, {4, 0, -9, -9}, {5, 1, -9, -9}, {-9, -9, 0, 0}});
        due("tune(2, 0)", y.tune(2, 0), 2);
        due("room(3, 3)", y.room(3, 3), 0);
    }

    private static void promise8Doors() {
        CarryFirst x = Checks.in("rooms 3;way 0 1 5 door;way 1 2 5 door;way 0 2 20;fire 1 30;");
        dueRooms(x, new long[][] {{0, -9, 45, 43}, {5, 0, 30, 28}, {10, 1, 45, 43}});
        x.tune(4, 1);
        dueRooms(x, new long[][] {{0, -9, 65, 63}, {25, 2, 30, 28}, {20, 0, 45, 43}});
        x.tune(4, 3);
        dueRooms(x, new long[][] {{0, -9, 65, 63}, {-9, -9, 30, 28}, {20, 0, 65, 63}});
        x.tune(1, 90);
        dueRooms(x, new long[][] {{0, -9, 135, 133}, {-9, -9, 30, 28}, {20, 0, 135, 133}});
        x.tune(1, 0);
        dueRooms(x, new long[][] {{0, -9, 45, 43}, {-9, -9, 30, 28}, {20, 0, 45, 43}});
    }

    private static void promise8ShutAsShort() {
        // the WAY that is SHUT would be as short as the PATH, and from a lesser ROOM
        CarryFirst x = Checks.in("rooms 3;way 0 1 5 door;way 0 2 2;way 2 1 3;");
        dueRooms(x, new long[][] {{0, -9, -9, -9}, {5, 0, -9, -9}, {2, 0, -9, -9}});
        x.tune(4, 1);
        dueRooms(x, new long[][] {{0, -9, -9, -9}, {5, 2, -9, -9}, {2, 0, -9, -9}});
    }

    private static void promise28Count() {
        CarryFirst x = Checks.in(FLAT);
        Checks.type(x, "abc");
        long[] counts = {5, 5, 2, 2, 2, 3};
        for (int what = 0; what < 6; what++) due("count(" + what + ")", x.count(what), counts[what]);
        due("count(6)", x.count(6), -1);
        due("count(-1)", x.count(-1), -1);
    }

    private static void dueRooms(CarryFirst x, long[][] rows) {
        for (int r = 0; r < rows.length; r++) {
            for (int what = 0; what < 4; what++) due("room(" + r + ", " + what + ")", x.room(r, what), rows[r][what]);
        }
    }

    private static void dueFault(String text, int place) {
        dueFaultBehind("", text, place);
    }

    private static void dueFaultBehind(String before, String text, int place) {
        CarryFirst x = new CarryFirst();
        Checks.type(x, before);
        x.clear();
        Checks.type(x, text);
        due("house() of " + text, x.house(), -10 - place);
        due("count(5) after " + text, x.count(5), text.length());
        due("count(0) after " + text, x.count(0), 1);
    }
}
