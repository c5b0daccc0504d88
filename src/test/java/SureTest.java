/** Promises 18 to 24. */
public final class SureTest {
    /** LEAVE of ROOM 1 is 20, FAR 2: a FETCHING is SAFE that begins in MINUTE 17 at most. */
    private static final String HOUSE =
        "rooms 4;way 0 1 2;way 1 2 3 door;bundle 1 5 9 7;bundle 1 6 8 10;bundle 2 1 5 1;bundle 3 1 4 9;bundle 0 1 1 0;"
        + "man 5;man 11;fire 1 22;fire 3 40;";

    public static void main(String[] args) {
        promise18Chance();
        promise19Sure();
        promise19AnotherReason();
        promise20Last();
        promise21Lost();
        promise21Wet();
        promise22Loads();
        promise23Edge();
        promise24Place();
        promise24Never();
        Checks.end();
    }

    private static void due(String call, long got, long want) {
        Checks.due(call, got, want);
    }

    private static void promise18Chance() {
        CarryFirst x = new CarryFirst();
        due("chance(0, 4, 3)", x.chance(0, 4, 3), 3);
        due("chance(0, 4, 2)", x.chance(0, 4, 2), 5);
        due("chance(4, 1, 5)", x.chance(4, 1, 5), 5);
        due("chance(4, 1, 1)", x.chance(4, 1, 1), -1);
        due("chance(0, 0, 5)", x.chance(0, 0, 5), 5);
        due("chance(0, 0, 6)", x.chance(0, 0, 6), -1);
        due("chance(0, 2, 0)", x.chance(0, 2, 0), 0);
        due("chance(0, 2, -1)", x.chance(0, 2, -1), -1);
        due("chance(1, 2, 6)", x.chance(1, 2, 6), -1);
        int[][] bad = {{-1, 0, 0}, {5, 0, 0}, {0, -1, 0}, {0, 5, 0}, {0, 1, -2147483648}};
        for (int[] a : bad) due("chance(" + a[0] + ", " + a[1] + ", " + a[2] + ")", x.chance(a[0], a[1], a[2]), -1);
        long[] now = {5, 5, 0, 0, 0};
        for (int k = 0; k < 5; k++) due("chance(" + k + ", " + k + ", 0)", x.chance(k, k, 0), now[k]);
    }

    private static void promise19Sure() {
        CarryFirst x = Checks.in(HOUSE);
        due("sure(0, 1, 0)", x.sure(0, 1, 0), 10);
        due("sure(0, 1, 17)", x.sure(0, 1, 17), 10);
        due("sure(0, 1, 18)", x.sure(0, 1, 18), 0);
        x.chance(0, 1, 4);
        x.chance(0, 3, 2);
        x.chance(0, 4, 1);
        // 3, 4, 0, 2, 1 of ten
        long[] due = {10, 9, 7, 7, 3, 0, 0};
        for (int i = 0; i < due.length; i++) due("sure(0, 1, " + (13 + i) + ")", x.sure(0, 1, 13 + i), due[i]);
        due("sure(1, 3, 16)", x.sure(1, 3, 16), 7);
        // his own MINUTE is not asked for
        due("fetch(1, 2)", x.fetch(1, 2), 4);
        due("sure(1, 1, 0)", x.sure(1, 1, 0), 10);
        due("sure(0, 16, 999) in the stair", x.sure(0, 16, 999), 0);
        CarryFirst y = Checks.in("rooms 1;bundle 0 1 1 1;man 1;");
        due("sure(0, 1, 999) where nothing burns", y.sure(0, 1, 999), 10);
        int[][] bad = {{-1, 1, 0}, {2, 1, 0}, {0, 0, 0}, {0, 32, 0}, {0, -1, 0}, {0, 1, -1}, {0, 1, 1000}};
        for (int[] a : bad) due("sure(" + a[0] + ", " + a[1] + ", " + a[2] + ")", x.sure(a[0], a[1], a[2]), -1);
        // a fire that is there from the beginning
        CarryFirst z = Checks.in("rooms 2;way 0 1 3;bundle 0 1 1 1;man 1;fire 1 0;");
        z.chance(0, 4, 10);
        due("sure(0, 1, 2), 4 sooner", z.sure(0, 1, 2), 10);
        due("sure(0, 1, 3), 4 sooner", z.sure(0, 1, 3), 0);
    }

    private static void promise19AnotherReason() {
        CarryFirst x = Checks.in(HOUSE);
        due("sure(0, 2, 0): too heavy", x.sure(0, 2, 0), 0);
        due("sure(1, 5, 0): of several ROOMS", x.sure(1, 5, 0), 0);
        due("sure(0, 8, 0): no way", x.sure(0, 8, 0), 0);
        due("sure(0, 4, 0)", x.sure(0, 4, 0), 10);
        x.tune(4, 2);
        due("sure(0, 4, 0): DOOR SHUT", x.sure(0, 4, 0), 0);
        x.fetch(0, 1);
        due("sure(1, 1, 0): fetched already", x.sure(1, 1, 0), 0);
        due("sure(1, 3, 0): fetched already", x.sure(1, 3, 0), 0);
        x.anew();
        due("sure(1, 3, 0)", x.sure(1, 3, 0), 10);
    }

    private static void promise20Last() {
        CarryFirst x = Checks.in(HOUSE);
        due("last(0, 1, 10)", x.last(0, 1, 10), 17);
        due("last(0, 1, 1)", x.last(0, 1, 1), 17);
        x.chance(0, 1, 4);
        x.chance(0, 3, 2);
        x.chance(0, 4, 1);
        long[] due = {17, 17, 17, 16, 16, 16, 16, 14, 14, 13};
        for (int k = 1; k <= 10; k++) due("last(0, 1, " + k + ")", x.last(0, 1, k), due[k - 1]);
        due("last(0, 2, 1): too heavy", x.last(0, 2, 1), -9);
        due("last(0, 8, 1): no way", x.last(0, 8, 1), -9);
        x.fetch(0, 1);
        due("last(0, 1, 1): fetched", x.last(0, 1, 1), -9);
        int[][] bad = {{-1, 1, 1}, {2, 1, 1}, {0, 0, 1}, {0, 32, 1}, {0, 1, 0}, {0, 1, 11}};
        for (int[] a : bad) due("last(" + a[0] + ", " + a[1] + ", " + a[2] + ")", x.last(a[0], a[1], a[2]), -1);
        due("last(0, 1, 10) where nothing burns", Checks.in("rooms 1;bundle 0 1 1 1;man 1;").last(0, 1, 10), 200);
        CarryFirst late = Checks.in("rooms 1;bundle 0 1 1 1;man 1;fire 0 3;");
        due("last(0, 1, 10)", late.last(0, 1, 10), 0);
        late.tune(2, 3);
        due("last(0, 1, 10)", late.last(0, 1, 10), -9);
        CarryFirst far = Checks.in("rooms 2;way 0 1 30;bundle 0 1 1 1;man 1;fire 1 99;");
        far.tune(2, 0);
        due("last(0, 1, 10)", far.last(0, 1, 10), 188);
        far.tune(0, 4);
        due("last(0, 1, 10), later than 200", far.last(0, 1, 10), 200);
    }

    private static void promise21Lost() {
        CarryFirst x = Checks.in(HOUSE);
        // fire comes to ROOM 1 in 22, to 0 in 28, to 2 in 31, to 3 in 40
        long[][] due = {{0, 0}, {21, 0}, {22, 17}, {27, 17}, {28, 18}, {30, 18}, {31, 23}, {39, 23}, {40, 27}, {999, 27}};
        for (long[] a : due) due("lost(" + a[0] + ", 0)", x.lost((int) a[0], 0), a[1]);
        x.fetch(0, 1);
        due("lost(40, 0)", x.lost(40, 0), 18);
        x.tune(4, 2);
        due("lost(50, 0), DOOR SHUT", x.lost(50, 0), 13);
        int[][] bad = {{-1, 0}, {1000, 0}, {0, -1}, {0, 2}};
        for (int[] a : bad) due("lost(" + a[0] + ", " + a[1] + ")", x.lost(a[0], a[1]), -1);
    }

    private static void promise21Wet() {
        CarryFirst x = Checks.in(HOUSE);
        // 63, 80, 5, 36, 0 tenths: 6, 8, 0, 3, 0
        long[][] due = {{0, 17}, {21, 17}, {22, 3}, {39, 3}, {40, 0}, {999, 0}};
        for (long[] a : due) due("lost(" + a[0] + ", 1)", x.lost((int) a[0], 1), a[1]);
        x.fetch(0, 1);
        due("lost(0, 1)", x.lost(0, 1), 11);
        due("lost(1000, 1)", x.lost(1000, 1), -1);
    }

    private static void promise22Loads() {
        CarryFirst x = Checks.in(HOUSE);
        // ROOM 1, FAR 2: three men a row; RUNNERS bring one each 4 MINUTES
        long[][] chain = {{2, 99, 0}, {3, 0, 0}, {3, 2, 0}, {3, 3, 1}, {5, 10, 8}, {6, 10, 16}, {40, 999, 12961}};
        for (long[] a : chain) due("loads(1, " + a[0] + ", " + a[1] + ", 0)", x.loads(1, (int) a[0], (int) a[1], 0), a[2]);
        long[][] runners = {{1, 3, 0}, {1, 4, 1}, {7, 11, 14}, {40, 999, 9960}};
        for (long[] a : runners) due("loads(1, " + a[0] + ", " + a[1] + ", 1)", x.loads(1, (int) a[0], (int) a[1], 1), a[2]);
        due("loads(0, 3, 7, 0)", x.loads(0, 3, 7, 0), 21);
        due("loads(0, 3, 7, 1)", x.loads(0, 3, 7, 1), 21);
        due("loads(3, 1, 1, 0)", x.loads(3, 1, 1, 0), -2);
        due("loads(3, 1, 1, 1)", x.loads(3, 1, 1, 1), -2);
        due("loads(3, 41, 1, 1)", x.loads(3, 41, 1, 1), -1);
        x.tune(4, 2);
        due("loads(2, 1, 1, 0)", x.loads(2, 1, 1, 0), -2);
        int[][] bad = {{-1, 1, 1, 0}, {4, 1, 1, 0}, {1, 0, 1, 0}, {1, 41, 1, 0}, {1, 1, -1, 0}, {1, 1, 1000, 0}, {1, 1, 1, -1}, {1, 1, 1, 2}};
        for (int[] a : bad) due("loads(" + a[0] + ", " + a[1] + ", ..)", x.loads(a[0], a[1], a[2], a[3]), -1);
    }

    private static void promise23Edge() {
        CarryFirst x = Checks.in(HOUSE);
        // ROOM 1 by MINUTE 3: one load by three men, none by RUNNERS; by 4: 2, and by 3 RUNNERS 3; 4 by 6, and 6
        due("edge(1, 2)", x.edge(1, 2), -9);
        due("edge(1, 3)", x.edge(1, 3), 3);
        due("edge(1, 4)", x.edge(1, 4), -9);
        due("edge(1, 7)", x.edge(1, 7), 3);
        // 6 by 3 men, as RUNNERS bring; 12 by 6
        due("edge(1, 8)", x.edge(1, 8), -9);
        due("edge(1, 999)", x.edge(1, 999), 3);
        due("edge(2, 9)", x.edge(2, 9), 6);
        due("edge(0, 999)", x.edge(0, 999), -9);
        due("edge(3, 9)", x.edge(3, 9), -2);
        int[][] bad = {{-1, 1}, {4, 1}, {3, -1}, {3, 1000}};
        for (int[] a : bad) due("edge(" + a[0] + ", " + a[1] + ")", x.edge(a[0], a[1]), -1);
        // a row of 40 men is the longest
        CarryFirst y = Checks.in("rooms 4;way 0 1 30;way 1 2 9;way 2 3 1;");
        due("edge(2, 77)", y.edge(2, 77), 40);
        due("edge(3, 79)", y.edge(3, 79), -9);
    }

    private static void promise24Place() {
        // LEAVE: ROOM 0 38, ROOM 1 20, ROOM 2 29, ROOM 3 38 (no way)
        CarryFirst x = Checks.in("rooms 4;way 0 1 6;way 1 2 3;bundle 1 1 5 0;bundle 1 1 9 0;bundle 1 1 5 0;bundle 1 1 9 0;"
            + "bundle 1 1 1 0;man 1;fire 1 22;fire 3 40;");
        long[][] due = {{2, 0, 1, 3, -9}, {3, 0, 3, 0, 2}, {0, 0, 3, 0, 3}, {0, 0, 0, 0, 3}, {0, 0, 0, 0, 0}};
        for (int slots = 1; slots <= 5; slots++) {
            for (int b = 0; b < 5; b++) due("place(" + b + ", " + slots + ")", x.place(b, slots), due[slots - 1][b]);
        }
        due("place(4, 9)", x.place(4, 9), 0);
        // what is fetched is laid, too
        x.fetch(0, 2);
        due("place(3, 1)", x.place(3, 1), 3);
        int[][] bad = {{-1, 1}, {5, 1}, {0, 0}, {0, 10}};
        for (int[] a : bad) due("place(" + a[0] + ", " + a[1] + ")", x.place(a[0], a[1]), -1);
    }

    private static void promise24Never() {
        // never left: ROOMS 0, 1, 2 (FAR 0, 4, 3) and 4 (no way); ROOM 3 burns
        String bundles = "bundle 0 1 9 0;bundle 0 1 8 0;bundle 0 1 7 0;bundle 0 1 6 0;bundle 0 1 5 0;bundle 0 1 4 0;";
        CarryFirst x = Checks.in("rooms 5;way 0 1 4;way 0 2 3;fire 3 99;" + bundles);
        long[] due = {0, 2, 1, 4, 3, -9};
        for (int b = 0; b < 6; b++) due("place(" + b + ", 1)", x.place(b, 1), due[b]);
        // of the same LEAVE and FAR the least number
        CarryFirst y = Checks.in("rooms 3;way 0 2 4;way 0 1 4;" + bundles);
        long[] same = {0, 1, 2, -9};
        for (int b = 0; b < 4; b++) due("place(" + b + ", 1)", y.place(b, 1), same[b]);
    }
}
