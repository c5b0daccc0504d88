/** Promises 9 to 13. */
public final class PlanTest {
    /**
     * LEAVE of ROOM 1 is 10, of ROOM 2 is 7, of ROOM 0 is 25 - 2 = 23; FAR 2 and 5; ROOM 3 has no way.
     */
    private static final String HOUSE =
        "rooms 4;way 0 1 2;way 1 2 3;bundle 2 10 5 0;bundle 1 6 7 0;bundle 1 5 9 0;bundle 3 1 99 0;"
        + "bundle 0 4 1 0;man 10;man 12;man 3;fire 2 9;fire 1 12;fire 0 25;";

    public static void main(String[] args) {
        promise9Fetch();
        promise9Edges();
        promise9ThePathIsLeft();
        promise10Why();
        promise10TheFirstReason();
        promise11Man();
        promise12Anew();
        promise13Saved();
        Checks.end();
    }

    private static void due(String call, long got, long want) {
        Checks.due(call, got, want);
    }

    private static void promise9Fetch() {
        CarryFirst x = Checks.in(HOUSE);
        due("fetch(0, 4)", x.fetch(0, 4), 4);
        due("fetch(0, 4)", x.fetch(0, 4), -2);
        due("fetch(1, 4)", x.fetch(1, 4), -2);
        due("fetch(0, 2)", x.fetch(0, 2), 8);
        due("fetch(1, 1)", x.fetch(1, 1), 10);
        due("fetch(2, 16)", x.fetch(2, 16), -2);
        due("fetch(1, 16)", x.fetch(1, 16), 10);
        due("fetch(0, 8)", x.fetch(0, 8), -2);
        due("man(0, 1)", x.man(0, 1), 8);
        due("man(1, 1)", x.man(1, 1), 10);
        due("man(2, 1)", x.man(2, 1), 0);
        due("saved(1)", x.saved(1), 23);
        int[][] bad = {{-1, 1}, {3, 1}, {0, 0}, {0, 32}, {0, -1}, {0, 33}, {2147483647, 1}, {0, -2147483648}};
        for (int[] a : bad) due("fetch(" + a[0] + ", " + a[1] + ")", x.fetch(a[0], a[1]), -1);
        due("fetch(0, 1) without a house", new CarryFirst().fetch(0, 1), -1);
        // two of one ROOM together
        CarryFirst y = Checks.in(HOUSE);
        due("fetch(0, 6)", y.fetch(0, 6), -2);
        due("fetch(1, 6)", y.fetch(1, 6), 4);
    }

    private static void promise9Edges() {
        // in ROOM 1 last in MINUTE t and 2; its LEAVE is 10: t is 7 at most
        for (int back = 7; back <= 8; back++) {
            CarryFirst x = Checks.in("rooms 2;way 0 1 2;bundle 1 1 1 1;bundle 0 1 1 1;man 1;fire 1 " + (back + 5) + ";");
            x.tune(0, 9);
            due("fetch(0, 1)", x.fetch(0, 1), 4);
            due("fetch(0, 2)", x.fetch(0, 2), 4);
        }
        String house = "rooms 2;way 0 1 2;bundle 1 1 1 1;bundle 1 1 1 1;man 1;fire 1 ";
        CarryFirst late = Checks.in(house + "8;");
        due("fetch(0, 1)", late.fetch(0, 1), 4);
        due("fetch(0, 2) in the MINUTE of LEAVE", late.fetch(0, 2), -2);
        CarryFirst early = Checks.in(house + "9;");
        due("fetch(0, 1)", early.fetch(0, 1), 4);
        due("fetch(0, 2) ahead of LEAVE", early.fetch(0, 2), 8);
        // ROOM 0, too: he is last in it in MINUTE t and twice FAR
        String stair = "rooms 2;way 0 1 2;bundle 1 1 1 1;man 1;fire 0 ";
        due("fetch(0, 1) when the stair is left", Checks.in(stair + "6;").fetch(0, 1), -2);
        due("fetch(0, 1) ahead of that", Checks.in(stair + "7;").fetch(0, 1), 4);
        // no time in ROOM 0 itself, none at all once it is left
        String hall = "rooms 1;bundle 0 1 1 1;man 1;fire 0 ";
        due("fetch(0, 1) from ROOM 0", Checks.in(hall + "3;").fetch(0, 1), 0);
        due("fetch(0, 1) from ROOM 0 too late", Checks.in(hall + "2;").fetch(0, 1), -2);
        due("fetch(0, 1) where nothing burns", Checks.in("rooms 1;bundle 0 1 1 1;man 1;").fetch(0, 1), 0);
    }

    private static void promise9ThePathIsLeft() {
        // the fire is in ROOM 1 on the PATH, LEAVE 7; ROOM 2 (LEAVE 10) is safe for longer
        String house = "rooms 3;way 0 1 2;way 1 2 1;bundle 2 1 1 1;bundle 2 1 1 1;man 1;fire 1 ";
        CarryFirst x = Checks.in(house + "9;");
        due("room(2, 3)", x.room(2, 3), 10);
        due("fetch(0, 1)", x.fetch(0, 1), 6);
        due("fetch(0, 2)", x.fetch(0, 2), -2);
        // in ROOM 1 he is last in MINUTE 6 and 6 less 2
        CarryFirst y = Checks.in(house + "12;");
        due("fetch(0, 1)", y.fetch(0, 1), 6);
        due("fetch(0, 2) with LEAVE 10", y.fetch(0, 2), -2);
        CarryFirst z = Checks.in(house + "13;");
        due("fetch(0, 1)", z.fetch(0, 1), 6);
        due("fetch(0, 2) with LEAVE 11", z.fetch(0, 2), 12);
        // with another DOOR SHUT the way is another
        CarryFirst w = Checks.in("rooms 3;way 0 2 1 door;way 0 1 2;way 1 2 3;bundle 2 1 1 1;bundle 1 1 1 1;man 1;");
        due("fetch(0, 1)", w.fetch(0, 1), 2);
        w.anew();
        w.tune(4, 1);
        due("fetch(0, 1)", w.fetch(0, 1), 10);
    }

    private static void promise10Why() {
        CarryFirst x = Checks.in(HOUSE);
        due("why(0, 6)", x.why(0, 6), 1);
        due("why(0, 4)", x.why(0, 4), 0);
        due("why(1, 5)", x.why(1, 5), 1);
        due("why(1, 20)", x.why(1, 20), 2);
        due("why(0, 8)", x.why(0, 8), 4);
        due("saved(1)", x.saved(1), 0);
        x.fetch(0, 4);
        due("why(0, 4)", x.why(0, 4), 3);
        due("why(1, 6)", x.why(1, 6), 3);
        due("why(0, 1)", x.why(0, 1), 5);
        due("why(1, 1)", x.why(1, 1), 0);
        x.tune(2, 6);
        due("why(1, 1)", x.why(1, 1), 5);
        int[][] bad = {{-1, 1}, {3, 1}, {0, 0}, {0, 32}, {0, -1}};
        for (int[] a : bad) due("why(" + a[0] + ", " + a[1] + ")", x.why(a[0], a[1]), -1);
    }

    private static void promise10TheFirstReason() {
        CarryFirst x = Checks.in("rooms 3;way 0 1 1;bundle 1 5 1 1;bundle 2 5 1 1;bundle 1 1 1 1;bundle 2 1 1 1;bundle 0 1 1 1;"
            + "man 5;fire 1 1;");
        due("fetch(0, 16)", x.fetch(0, 16), 0);
        due("why(0, 3): heavy, of two ROOMS", x.why(0, 3), 1);
        due("why(0, 17): heavy, of two ROOMS, fetched", x.why(0, 17), 1);
        due("why(0, 20): of two ROOMS, fetched", x.why(0, 20), 2);
        due("why(0, 12): of two ROOMS, no way", x.why(0, 12), 2);
        due("why(0, 2): no way", x.why(0, 2), 4);
        due("why(0, 1): not SAFE", x.why(0, 1), 5);
        CarryFirst y = Checks.in("rooms 2;way 0 1 1 door;bundle 1 1 1 1;man 1;");
        due("fetch(0, 1)", y.fetch(0, 1), 2);
        y.tune(4, 1);
        due("why(0, 1): fetched, no way", y.why(0, 1), 3);
    }

    private static void promise11Man() {
        CarryFirst x = Checks.in(HOUSE);
        long[] loads = {10, 12, 3};
        for (int m = 0; m < 3; m++) {
            due("man(" + m + ", 0)", x.man(m, 0), loads[m]);
            due("man(" + m + ", 1)", x.man(m, 1), 0);
        }
        x.fetch(1, 4);
        due("man(1, 1)", x.man(1, 1), 4);
        due("man(0, 1)", x.man(0, 1), 0);
        due("man(3, 0)", x.man(3, 0), -1);
        due("man(-1, 0)", x.man(-1, 0), -1);
        due("man(0, 2)", x.man(0, 2), -1);
        due("man(0, -1)", x.man(0, -1), -1);
    }

    private static void promise12Anew() {
        CarryFirst x = Checks.in("rooms 2;way 0 1 3 door;bundle 0 1 1 1;bundle 0 1 1 1;bundle 1 1 1 1;man 2;");
        x.tune(4, 1);
        due("fetch(0, 3)", x.fetch(0, 3), 0);
        x.tune(4, 0);
        due("fetch(0, 4)", x.fetch(0, 4), 6);
        x.tune(4, 1);
        due("anew()", x.anew(), 3);
        due("anew()", x.anew(), 0);
        due("saved(1)", x.saved(1), 0);
        due("man(0, 1)", x.man(0, 1), 0);
        due("way(0, 4)", x.way(0, 4), 1);
    }

    private static void promise13Saved() {
        CarryFirst x = Checks.in(HOUSE);
        for (int what = 0; what < 3; what++) due("saved(" + what + ")", x.saved(what), 0);
        x.fetch(1, 1);
        x.fetch(0, 4);
        due("saved(0)", x.saved(0), 14);
        due("saved(1)", x.saved(1), 5);
        due("saved(2)", x.saved(2), 10);
        x.fetch(2, 16);
        x.fetch(0, 2);
        due("saved(0)", x.saved(0), 21);
        due("saved(2)", x.saved(2), 10);
        due("saved(3)", x.saved(3), -1);
        due("saved(-1)", x.saved(-1), -1);
    }
}
