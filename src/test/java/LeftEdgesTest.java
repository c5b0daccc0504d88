/** What "Terms" says of SURE, LAST, LOST, WET, CHAIN, RUNNERS, EDGE, PLACE, KINDS and IMAGES, a test for each sentence. */
public final class LeftEdgesTest {
    public static void main(String[] args) {
        chancesAtFirst();
        chancesFromOneToAnother();
        chancesTenTogether();
        sureOfEachMinuteSooner();
        sureInEachRoomOfThePath();
        sureWhereLeaveIsNearZero();
        sureOfMinutes0To999();
        sureNotForAnotherReason();
        lastTheGreatest();
        lastOf200();
        lastNone();
        lostByThen();
        lostAllAndNothing();
        wetRoundedDown();
        wetOfThoseThatDoNotBurn();
        chainOfRows();
        chainOnceFarHasGone();
        runnersEachTwiceFar();
        loadsByDoors();
        edgeTheLeast();
        edgeMoreNotAsMany();
        placeInOrderOfWorth();
        placeInTheBestRoom();
        placeBySlots();
        priceOfEachKind();
        priceNeverAndNone();
        priceByDoorsShut();
        traceOfEachKind();
        traceOfAllCallsEver();
        imagesKeepThePlan();
        imagesKeepNothingElse();
        imagesAreTwo();
        imagesKeptAgain();
        aHouseReadAnew();
        anotherHouse();
        Checks.end();
    }

    private static void due(String call, long got, long want) {
        Checks.due(call, got, want);
    }

    private static void dueChances(String name, CarryFirst x, int... want) {
        for (int k = 0; k < 5; k++) due(name + ": CHANCE " + k, x.chance(k, k, 0), want[k]);
    }

    private static CarryFirst twoOfTenEach(CarryFirst x) {
        for (int k = 1; k <= 4; k++) due("chance(0, " + k + ", 2)", x.chance(0, k, 2), 2);
        dueChances("two of ten each", x, 2, 2, 2, 2, 2);
        return x;
    }

    // ---- CHANCES

    private static void chancesAtFirst() {
        dueChances("at first", new CarryFirst(), 10, 0, 0, 0, 0);
    }

    private static void chancesFromOneToAnother() {
        for (int j = 0; j < 5; j++) {
            for (int k = 0; k < 5; k++) {
                CarryFirst x = new CarryFirst();
                if (j != 0) due("chance(0, j, 10)", x.chance(0, j, 10), 10);
                int[] want = new int[5];
                want[j] = 10;
                due("one too many", x.chance(j, k, 11), -1);
                due("less than none", x.chance(j, k, -1), -1);
                dueChances("from " + j + " to " + k, x, want);
                due("none", x.chance(j, k, 0), want[k]);
                dueChances("from " + j + " to " + k, x, want);
                want[j] -= 7;
                want[k] += 7;
                due("seven", x.chance(j, k, 7), want[k]);
                dueChances("from " + j + " to " + k, x, want);
                due("all that is left", x.chance(j, k, want[j]), 10);
            }
        }
    }

    private static void chancesTenTogether() {
        CarryFirst x = new CarryFirst();
        for (int i = 0; i < 60; i++) {
            x.chance(i % 5, i * 3 % 5, i % 4);
            int sum = 0;
            for (int k = 0; k < 5; k++) sum += x.chance(k, k, 0);
            due("all CHANCES", sum, 10);
        }
    }

    // ---- SURE and LAST

    private static void sureOfEachMinuteSooner() {
        // in ROOM 1 last in t and 2, ahead of 8 less the MINUTES sooner
        CarryFirst x = twoOfTenEach(Checks.in("rooms 2;way 0 1 2;bundle 1 1 1 1;man 1;fire 1 10;"));
        x.tune(0, 9);
        int[] sure = {10, 10, 8, 6, 4, 2, 0, 0};
        for (int t = 0; t < 8; t++) due("sure(0, 1, " + t + ")", x.sure(0, 1, t), sure[t]);
        // LAST by each k
        int[] last = {5, 5, 4, 4, 3, 3, 2, 2, 1, 1};
        for (int k = 1; k <= 10; k++) due("last(0, 1, " + k + ")", x.last(0, 1, k), last[k - 1]);
        // each CHANCE for itself
        for (int k = 0; k < 5; k++) {
            CarryFirst y = Checks.in("rooms 2;way 0 1 2;bundle 1 1 1 1;man 1;fire 1 10;");
            y.tune(0, 9);
            y.chance(0, k, 10);
            due("the last MINUTE, " + k + " sooner", y.sure(0, 1, 5 - k), 10);
            due("a MINUTE later, " + k + " sooner", y.sure(0, 1, 6 - k), 0);
            due("last(0, 1, 10), " + k + " sooner", y.last(0, 1, 10), 5 - k);
            due("why(0, 1)", y.why(0, 1), 0);
        }
    }

    private static void sureInEachRoomOfThePath() {
        // a FETCHING from ROOM 2 is last in ROOM 2, 1, 0 in t and 5, 8, 10
        int[] last = {10, 8, 5};
        for (int r = 0; r < 3; r++) {
            CarryFirst x = twoOfTenEach(Checks.in("rooms 3;way 0 1 2;way 1 2 3;bundle 2 1 1 1;man 1;fire " + r + " 20;"));
            x.tune(0, 9);
            for (int late = 0; late < 8; late++) {
                int t = 17 - last[r] - 4 + late;
                due("a fire in " + r + ": sure(0, 1, " + t + ")", x.sure(0, 1, t), Math.max(0, 10 - 2 * late));
            }
        }
    }

    private static void sureWhereLeaveIsNearZero() {
        // LEAVE is 2, 1, 0, 0, 0 in turn: what is sooner than MINUTE 0 is none the less
        CarryFirst x = twoOfTenEach(Checks.in("rooms 1;bundle 0 1 1 1;man 1;fire 0 4;"));
        int[] sure = {4, 2, 0};
        for (int t = 0; t < 3; t++) due("sure(0, 1, " + t + ")", x.sure(0, 1, t), sure[t]);
        x.tune(2, 4);
        due("sure(0, 1, 0), LEAVE 0", x.sure(0, 1, 0), 0);
        due("last(0, 1, 1), LEAVE 0", x.last(0, 1, 1), -9);
        x.tune(2, 0);
        due("sure(0, 1, 0), LEAVE 4", x.sure(0, 1, 0), 8);
        due("last(0, 1, 8), LEAVE 4", x.last(0, 1, 8), 0);
        due("last(0, 1, 9), LEAVE 4", x.last(0, 1, 9), -9);
    }

    private static void sureOfMinutes0To999() {
        CarryFirst never = twoOfTenEach(Checks.in("rooms 1;bundle 0 1 1 1;man 1;"));
        due("sure(0, 1, 0), never", never.sure(0, 1, 0), 10);
        due("sure(0, 1, 999), never", never.sure(0, 1, 999), 10);
        due("sure(0, 1, 1000)", never.sure(0, 1, 1000), -1);
        due("sure(0, 1, -1)", never.sure(0, 1, -1), -1);
        // fire comes in 99 and 9 times 100 and 3
        CarryFirst late = twoOfTenEach(Checks.in("rooms 6;way 0 1 30;way 1 2 30;way 2 3 30;way 3 4 10;way 4 5 1;bundle 0 1 1 1;man 1;fire 5 92;"));
        late.tune(0, 9);
        due("BURNS of ROOM 0", late.room(0, 2), 92 + 909);
        late.tune(2, 0);
        due("sure(0, 1, 996)", late.sure(0, 1, 996), 10);
        due("sure(0, 1, 997)", late.sure(0, 1, 997), 8);
        due("sure(0, 1, 999)", late.sure(0, 1, 999), 4);
        due("last(0, 1, 10)", late.last(0, 1, 10), 200);
        // the MINUTE of the man is not asked for
        CarryFirst x = Checks.in("rooms 2;way 0 1 2;bundle 1 1 1 1;bundle 1 1 1 1;man 1;man 1;fire 0 9;");
        due("fetch(0, 1)", x.fetch(0, 1), 4);
        due("why(0, 2)", x.why(0, 2), 5);
        due("sure(0, 2, 0)", x.sure(0, 2, 0), 10);
        due("sure(0, 2, 2)", x.sure(0, 2, 2), 10);
        due("sure(0, 2, 3)", x.sure(0, 2, 3), 0);
        due("last(0, 2, 10)", x.last(0, 2, 10), 2);
        due("man(0, 1)", x.man(0, 1), 4);
    }

    private static void sureNotForAnotherReason() {
        CarryFirst x = Checks.in("rooms 4;way 0 1 1;way 0 2 1 door;bundle 1 5 1 1;bundle 1 6 1 1;bundle 2 1 1 1;bundle 3 1 1 1;man 5;man 99;");
        int[][] rows = {{0, 1, 10}, {0, 2, 0}, {0, 3, 0}, {1, 3, 10}, {1, 5, 0}, {0, 4, 10}, {0, 8, 0}, {1, 15, 0}};
        for (int[] row : rows) {
            due("sure(" + row[0] + ", " + row[1] + ", 0)", x.sure(row[0], row[1], 0), row[2]);
            due("last(" + row[0] + ", " + row[1] + ", 1)", x.last(row[0], row[1], 1), row[2] == 0 ? -9 : 200);
        }
        x.tune(4, 2);
        due("sure(0, 4, 0), no way now", x.sure(0, 4, 0), 0);
        due("last(0, 4, 1), no way now", x.last(0, 4, 1), -9);
        due("fetch(1, 2)", x.fetch(1, 2), 2);
        due("sure(1, 2, 0), fetched", x.sure(1, 2, 0), 0);
        due("sure(1, 3, 0), fetched in part", x.sure(1, 3, 0), 0);
        due("last(1, 3, 1), fetched in part", x.last(1, 3, 1), -9);
        due("sure(1, 1, 0)", x.sure(1, 1, 0), 10);
    }

    private static void lastTheGreatest() {
        // ROOM 1 is left in 30, ROOM 0 in 40: in the one last in t and 3, in the other in t and 6
        CarryFirst x = Checks.in("rooms 2;way 0 1 3;bundle 1 1 1 1;bundle 0 1 1 1;man 1;fire 1 32;fire 0 42;");
        x.tune(0, 9);
        due("last(0, 1, 10)", x.last(0, 1, 10), 26);
        due("sure(0, 1, 26)", x.sure(0, 1, 26), 10);
        due("sure(0, 1, 27)", x.sure(0, 1, 27), 0);
        due("last(0, 2, 10)", x.last(0, 2, 10), 39);
        due("last(0, 1, 0)", x.last(0, 1, 0), -1);
        due("last(0, 1, 11)", x.last(0, 1, 11), -1);
        due("last(0, 1, 1)", x.last(0, 1, 1), 26);
        x.chance(0, 4, 9);
        due("last(0, 1, 1)", x.last(0, 1, 1), 26);
        due("last(0, 1, 2)", x.last(0, 1, 2), 22);
        due("last(0, 1, 10)", x.last(0, 1, 10), 22);
    }

    private static void lastOf200() {
        // LEAVE of ROOM 0 is 207 less SMOKE
        CarryFirst x = Checks.in("rooms 2;way 0 1 12;bundle 0 1 1 1;man 1;fire 1 99;");
        x.tune(0, 9);
        int[][] rows = {{8, 198}, {7, 199}, {6, 200}, {5, 200}, {0, 200}};
        for (int[] row : rows) {
            x.tune(2, row[0]);
            due("SMOKE " + row[0] + ": last(0, 1, 10)", x.last(0, 1, 10), row[1]);
        }
        due("sure(0, 1, 206)", x.sure(0, 1, 206), 10);
        due("sure(0, 1, 207)", x.sure(0, 1, 207), 0);
    }

    private static void lastNone() {
        CarryFirst x = Checks.in("rooms 1;bundle 0 1 1 1;man 1;fire 0 3;");
        due("last(0, 1, 10), LEAVE 1", x.last(0, 1, 10), 0);
        x.chance(0, 1, 1);
        due("last(0, 1, 10), one of ten sooner", x.last(0, 1, 10), -9);
        due("last(0, 1, 9), one of ten sooner", x.last(0, 1, 9), 0);
        x.tune(2, 3);
        for (int k = 1; k <= 10; k++) due("last(0, 1, " + k + "), LEAVE 0", x.last(0, 1, k), -9);
    }

    // ---- LOST and WET

    private static void lostByThen() {
        // fire comes to ROOM 1 in 0, to ROOM 0 in 6, to ROOM 2 in 12; never to ROOM 3
        CarryFirst x = Checks.in("rooms 4;way 0 1 2;way 0 2 2;bundle 1 1 1 10;bundle 0 1 2 10;bundle 2 1 4 10;bundle 3 1 8 10;man 1;fire 1 0;");
        int[][] rows = {{0, 1, 14}, {5, 1, 14}, {6, 3, 12}, {11, 3, 12}, {12, 7, 8}, {999, 7, 8}};
        for (int[] row : rows) {
            due("lost(" + row[0] + ", 0)", x.lost(row[0], 0), row[1]);
            due("lost(" + row[0] + ", 1)", x.lost(row[0], 1), row[2]);
        }
        // SMOKE burns nothing
        x.tune(2, 30);
        due("lost(5, 0)", x.lost(5, 0), 1);
        // by a fire that is sooner, too, it is as it was
        x.chance(0, 4, 10);
        due("lost(5, 0)", x.lost(5, 0), 1);
        x.tune(2, 0);
        due("fetch(0, 2)", x.fetch(0, 2), 0);
        due("lost(999, 0), fetched", x.lost(999, 0), 5);
        due("lost(0, 1), fetched", x.lost(0, 1), 12);
        due("anew()", x.anew(), 1);
        due("lost(999, 0), anew", x.lost(999, 0), 7);
    }

    private static void lostAllAndNothing() {
        CarryFirst all = Checks.in("rooms 1;" + "bundle 0 1 99 10;".repeat(10) + "fire 0 0;");
        due("lost(0, 0), all", all.lost(0, 0), 990);
        due("lost(0, 1), all", all.lost(0, 1), 0);
        CarryFirst none = Checks.in("rooms 1;" + "bundle 0 1 99 10;".repeat(10));
        due("lost(999, 0), no fire", none.lost(999, 0), 0);
        due("lost(999, 1), no fire", none.lost(999, 1), 990);
        CarryFirst worthless = Checks.in("rooms 1;bundle 0 1 0 10;fire 0 9;");
        due("lost(8, 1), worth nothing", worthless.lost(8, 1), 0);
        due("lost(9, 0), worth nothing", worthless.lost(9, 0), 0);
    }

    private static void wetRoundedDown() {
        int[][] rows = {{99, 10, 99}, {99, 9, 89}, {99, 1, 9}, {99, 0, 0}, {10, 1, 1}, {9, 1, 0}, {1, 9, 0}, {1, 10, 1}, {0, 10, 0}, {19, 1, 1}};
        for (int[] row : rows) {
            CarryFirst x = Checks.in("rooms 1;bundle 0 1 " + row[0] + " " + row[1] + ";");
            due("WORTH " + row[0] + ", WET " + row[1], x.lost(0, 1), row[2]);
        }
        // each for itself: 0.9 four times is nothing, 1.9 four times is 4
        due("four of 9 and 1", Checks.in("rooms 1;" + "bundle 0 1 9 1;".repeat(4)).lost(0, 1), 0);
        due("four of 19 and 1", Checks.in("rooms 1;" + "bundle 0 1 19 1;".repeat(4)).lost(0, 1), 4);
    }

    private static void wetOfThoseThatDoNotBurn() {
        CarryFirst x = Checks.in("rooms 2;bundle 1 1 20 5;bundle 0 1 30 5;man 1;fire 1 7;");
        due("lost(6, 1)", x.lost(6, 1), 25);
        due("lost(7, 1)", x.lost(7, 1), 15);
        due("fetch(0, 2)", x.fetch(0, 2), 0);
        due("lost(6, 1)", x.lost(6, 1), 10);
        due("lost(7, 1)", x.lost(7, 1), 0);
    }

    // ---- CHAIN, RUNNERS, EDGE

    /** FAR 1, 2, 39 and 40. */
    private static CarryFirst faraway() {
        return Checks.in("rooms 6;way 0 1 1;way 0 2 2;way 0 3 30;way 3 4 9;way 4 5 1;");
    }

    private static void chainOfRows() {
        CarryFirst x = faraway();
        // ROOM, men, rows
        int[][] rows = {{0, 1, 1}, {0, 40, 40}, {1, 1, 0}, {1, 2, 1}, {1, 3, 1}, {1, 4, 2}, {1, 40, 20}, {2, 2, 0}, {2, 3, 1}, {2, 5, 1},
            {2, 6, 2}, {2, 40, 13}, {4, 39, 0}, {4, 40, 1}, {5, 40, 0}};
        for (int[] row : rows) {
            int far = x.room(row[0], 0);
            due("loads(" + row[0] + ", " + row[1] + ", a MINUTE, 0)", x.loads(row[0], row[1], far + 1, 0), row[2]);
            due("loads(" + row[0] + ", " + row[1] + ", ten MINUTES, 0)", x.loads(row[0], row[1], far + 10, 0), 10 * row[2]);
        }
    }

    private static void chainOnceFarHasGone() {
        CarryFirst x = faraway();
        int[][] rows = {{1, 0, 0}, {1, 1, 0}, {1, 2, 20}, {1, 999, 19960}, {4, 0, 0}, {4, 38, 0}, {4, 39, 0}, {4, 40, 1}, {4, 999, 960},
            {0, 0, 0}, {0, 1, 40}, {0, 999, 39960}};
        for (int[] row : rows) due("loads(" + row[0] + ", 40, " + row[1] + ", 0)", x.loads(row[0], 40, row[1], 0), row[2]);
    }

    private static void runnersEachTwiceFar() {
        CarryFirst x = faraway();
        int[][] rows = {{0, 1, 0, 0}, {0, 1, 1, 1}, {0, 40, 999, 39960}, {1, 1, 1, 0}, {1, 1, 2, 1}, {1, 1, 3, 1}, {1, 1, 4, 2},
            {1, 7, 999, 3493}, {2, 5, 3, 0}, {2, 5, 4, 5}, {2, 5, 7, 5}, {2, 5, 8, 10}, {4, 40, 77, 0}, {4, 40, 78, 40}, {4, 40, 155, 40},
            {4, 40, 156, 80}, {4, 40, 0, 0}};
        for (int[] row : rows) {
            due("loads(" + row[0] + ", " + row[1] + ", " + row[2] + ", 1)", x.loads(row[0], row[1], row[2], 1), row[3]);
        }
    }

    private static void loadsByDoors() {
        // FAR 1 by the one DOOR, 4 by the other; what burns is not asked for
        CarryFirst x = Checks.in("rooms 2;way 0 1 1 door;way 0 1 4 door;fire 1 0;");
        int[][] rows = {{0, 18, 5, -9}, {1, 6, 1, 5}, {2, 18, 5, -9}, {3, -2, -2, -2}};
        for (int[] row : rows) {
            x.tune(4, row[0]);
            due("SHUT " + row[0] + ": loads(1, 5, 10, 0)", x.loads(1, 5, 10, 0), row[1]);
            due("SHUT " + row[0] + ": loads(1, 1, 10, 1)", x.loads(1, 1, 10, 1), row[2]);
            due("SHUT " + row[0] + ": edge(1, 5)", x.edge(1, 5), row[3]);
        }
    }

    private static void edgeTheLeast() {
        CarryFirst x = faraway();
        // ROOM 2: three men bring more from MINUTE 3 on, but for some MINUTES in which RUNNERS are just back
        int[][] rows = {{2, 0, -9}, {2, 2, -9}, {2, 3, 3}, {2, 4, -9}, {2, 7, 3}, {2, 999, 3}, {4, 39, -9}, {4, 40, 40}, {4, 77, 40},
            {4, 78, -9}, {4, 79, -9}, {4, 80, 40}, {4, 999, 40}, {5, 999, -9}, {5, 79, -9}};
        for (int[] row : rows) due("edge(" + row[0] + ", " + row[1] + ")", x.edge(row[0], row[1]), row[2]);
    }

    private static void edgeMoreNotAsMany() {
        CarryFirst x = faraway();
        for (int t = 0; t <= 999; t += 37) {
            due("edge(0, " + t + ")", x.edge(0, t), -9);
            due("edge(1, " + t + ")", x.edge(1, t), -9);
        }
        // by two men as many, by RUNNERS and in a row
        due("loads(1, 2, 9, 0)", x.loads(1, 2, 9, 0), 8);
        due("loads(1, 2, 9, 1)", x.loads(1, 2, 9, 1), 8);
        // ROOM 2 by MINUTE 6: a row of three 4, three RUNNERS 3; by 5: 3 and 3
        due("edge(2, 6)", x.edge(2, 6), 3);
        due("edge(2, 5)", x.edge(2, 5), -9);
    }

    // ---- PLACE

    private static void duePlaces(String name, CarryFirst x, int slots, int... want) {
        for (int b = 0; b < want.length; b++) due(name + ": place(" + b + ", " + slots + ")", x.place(b, slots), want[b]);
    }

    private static void placeInOrderOfWorth() {
        // the ROOMS in the order 0, 1, 2, 3
        String house = "rooms 4;way 0 1 1;way 0 2 2;way 0 3 3;";
        duePlaces("rising", Checks.in(house + "bundle 0 1 1 1;bundle 0 1 2 1;bundle 0 1 3 1;bundle 0 1 4 1;"), 1, 3, 2, 1, 0);
        duePlaces("falling", Checks.in(house + "bundle 0 1 4 1;bundle 0 1 3 1;bundle 0 1 2 1;bundle 0 1 1 1;"), 1, 0, 1, 2, 3);
        duePlaces("alike", Checks.in(house + "bundle 0 1 7 1;bundle 0 9 7 9;bundle 3 1 7 1;bundle 0 1 7 1;"), 1, 0, 1, 2, 3);
        duePlaces("mixed", Checks.in(house + "bundle 0 1 0 1;bundle 0 1 99 1;bundle 0 1 0 1;bundle 0 1 99 1;"), 1, 2, 0, 3, 1);
    }

    private static void placeInTheBestRoom() {
        String six = "bundle 0 1 9 1;bundle 0 1 8 1;bundle 0 1 7 1;bundle 0 1 6 1;bundle 0 1 5 1;";
        // the greatest LEAVE: from the fire in 0 the farther the later
        duePlaces("LEAVE", Checks.in("rooms 4;way 0 1 1;way 1 2 1;way 2 3 1;fire 0 5;" + six), 1, 3, 2, 1, 0, -9);
        // LEAVE 0 of several that burn sooner and later: FAR tells
        CarryFirst smoke = Checks.in("rooms 4;way 0 1 2;way 0 2 1;way 0 3 2;fire 1 0;" + six);
        smoke.tune(2, 30);
        duePlaces("all LEAVE 0", smoke, 1, 0, 2, 1, 3, -9);
        // never is the greatest, though there is no way to it; it is more than the latest LEAVE
        CarryFirst never = Checks.in("rooms 3;way 0 1 30;fire 1 99;" + six);
        never.tune(0, 9);
        duePlaces("never", never, 1, 2, 0, 1, -9, -9);
        // of ROOMS that are never left the least FAR, those without a way last
        duePlaces("FAR", Checks.in("rooms 4;way 0 2 9;way 0 3 8;" + six), 1, 0, 3, 2, 1, -9);
        // of ROOMS without a way the least number
        duePlaces("number", Checks.in("rooms 4;" + six), 1, 0, 1, 2, 3, -9);
        // a DOOR that is SHUT tells, too
        CarryFirst door = Checks.in("rooms 2;way 0 1 1 door;fire 0 9;" + six);
        duePlaces("open", door, 2, 1, 1, 0, 0, -9);
        CarryFirst other = Checks.in("rooms 3;way 0 1 1 door;way 0 2 2;" + six);
        duePlaces("open", other, 1, 0, 1, 2);
        other.tune(4, 1);
        duePlaces("SHUT", other, 1, 0, 2, 1);
    }

    private static void placeBySlots() {
        String ten = "bundle 0 1 5 1;".repeat(10);
        CarryFirst one = Checks.in("rooms 1;" + ten);
        for (int slots = 1; slots <= 9; slots++) {
            for (int b = 0; b < 10; b++) due("place(" + b + ", " + slots + ")", one.place(b, slots), b < slots ? 0 : -9);
        }
        due("place(0, 10)", one.place(0, 10), -1);
        due("place(0, 0)", one.place(0, 0), -1);
        CarryFirst eight = Checks.in("rooms 8;" + ten);
        duePlaces("eight ROOMS", eight, 1, 0, 1, 2, 3, 4, 5, 6, 7, -9, -9);
        duePlaces("eight ROOMS", eight, 3, 0, 0, 0, 1, 1, 1, 2, 2, 2, 3);
        duePlaces("eight ROOMS", eight, 9, 0, 0, 0, 0, 0, 0, 0, 0, 0, 1);
        // where they lie is as it was
        due("bundle(9, 0)", eight.bundle(9, 0), 0);
    }

    // ---- KINDS

    private static final String KINDS =
        "rooms 4;way 0 1 6 door;way 0 1 7 door;bundle 1 5 9 7;bundle 2 99 99 10;bundle 0 1 0 10;bundle 3 2 3 0;fire 1 22;fire 3 1;";

    private static void priceOfEachKind() {
        CarryFirst x = Checks.in(KINDS);
        // LEAVE 20, FAR 6; never, no way; LEAVE 38, FAR 0; LEAVE 0, no way
        int[][] want = {{5, 25, 45, 31, 38, 5}, {99, 99, 9801, 99, 9791, 99}, {1, 39, 0, 39, -10, 1}, {2, 2, 6, 2, 6, 2}};
        for (int b = 0; b < 4; b++) {
            for (int kind = 0; kind < 6; kind++) due("price(" + kind + ", " + b + ")", x.price(kind, b), want[b][kind]);
        }
        for (int kind = 0; kind < 6; kind++) {
            due("price(" + kind + ", 4)", x.price(kind, 4), -1000000);
            due("price(" + kind + ", -1)", x.price(kind, -1), -1000000);
        }
        due("price(6, 0)", x.price(6, 0), -1000000);
        due("price(-1, 0)", x.price(-1, 0), -1000000);
    }

    private static void priceNeverAndNone() {
        // the DOORS SHUT: LEAVE as it was, no way to ROOM 1
        CarryFirst x = Checks.in(KINDS);
        x.tune(4, 3);
        due("price(1, 0)", x.price(1, 0), 25);
        due("price(3, 0)", x.price(3, 0), 25);
        // a WAY, no fire
        CarryFirst y = Checks.in("rooms 2;way 0 1 6;bundle 1 5 9 7;");
        due("price(1, 0)", y.price(1, 0), 5);
        due("price(3, 0)", y.price(3, 0), 11);
    }

    private static void priceByDoorsShut() {
        CarryFirst x = Checks.in("rooms 2;" + "way 0 1 1 door;".repeat(6) + "way 0 1 1;bundle 1 5 9 7;");
        int[][] rows = {{0, 5}, {1, 6}, {32, 6}, {33, 7}, {63, 11}, {4095, 11}, {64, 5}, {127, 11}};
        for (int[] row : rows) {
            x.tune(4, row[0]);
            due("price(5, 0), SHUT " + row[0], x.price(5, 0), row[1]);
        }
    }

    private static void traceOfEachKind() {
        int[] steps = {1, 11, 101, 1011, 10101, 100001};
        for (int first = 0; first < 6; first++) {
            // each KIND behind each other, and behind itself
            for (int then = 0; then < 6; then++) {
                CarryFirst x = Checks.in(KINDS);
                due("trace() at first", x.trace(), 0);
                x.price(first, 1);
                due("trace() after KIND " + first, x.trace(), steps[first]);
                x.price(then, 2);
                due("trace() after KIND " + then, x.trace(), steps[first] + steps[then]);
            }
        }
    }

    private static void traceOfAllCallsEver() {
        CarryFirst x = Checks.in(KINDS);
        long sum = 0;
        for (int i = 0; i < 60; i++) {
            x.price(i % 6, i % 4);
            sum += new long[] {1, 11, 101, 1011, 10101, 100001}[i % 6];
            due("price(6, 0)", x.price(6, 0), -1000000);
            due("price(0, 9)", x.price(0, 9), -1000000);
        }
        due("trace()", x.trace(), sum);
        x.keep(0);
        x.price(0, 0);
        x.back(0);
        due("trace() after back()", x.trace(), sum + 1);
        x.anew();
        x.clear();
        Checks.read(x, "rooms 1;");
        due("trace() after house()", x.trace(), sum + 1);
        due("trace() of another object", new CarryFirst().trace(), 0);
        for (int i = 0; i < 5; i++) due("trace()", x.trace(), sum + 1);
    }

    // ---- IMAGES

    private static final String HOUSE =
        "rooms 3;way 0 1 2 door;way 0 2 3 door;bundle 1 1 1 1;bundle 2 1 1 1;bundle 0 1 1 1;bundle 1 1 1 1;man 1;man 1;man 1;fire 2 40;";

    /** The set fetched, what is SHUT, the MINUTES. */
    private static void dueState(String name, CarryFirst x, int set, int shut, int... minutes) {
        due(name + ": saved(1)", x.saved(1), set);
        for (int w = 0; w < 2; w++) due(name + ": way(" + w + ", 4)", x.way(w, 4), shut >> w & 1);
        for (int w = 0; w < 2; w++) due(name + ": room(" + (w + 1) + ", 0)", x.room(w + 1, 0), (shut >> w & 1) == 1 ? -9 : w + 2);
        for (int m = 0; m < 3; m++) due(name + ": man(" + m + ", 1)", x.man(m, 1), minutes[m]);
        for (int b = 0; b < 4; b++) due(name + ": bundle(" + b + ", 4)", x.bundle(b, 4), set >> b & 1);
    }

    private static void imagesKeepThePlan() {
        for (int image = 0; image < 2; image++) {
            CarryFirst x = Checks.in(HOUSE);
            due("back() of none", x.back(image), -2);
            due("keep() of nothing fetched", x.keep(image), 0);
            due("fetch(0, 1)", x.fetch(0, 1), 4);
            due("fetch(2, 2)", x.fetch(2, 2), 6);
            x.tune(4, 2);
            dueState("before", x, 3, 2, 4, 0, 6);
            due("back() to nothing fetched", x.back(image), 0);
            dueState("at first", x, 0, 0, 0, 0, 0);
            due("fetch(1, 2)", x.fetch(1, 2), 6);
            due("fetch(1, 8)", x.fetch(1, 8), 10);
            due("fetch(0, 4)", x.fetch(0, 4), 0);
            x.tune(4, 3);
            due("keep() of three", x.keep(image), 3);
            dueState("kept", x, 14, 3, 0, 10, 0);
            due("anew()", x.anew(), 3);
            x.tune(4, 1);
            due("fetch(2, 4)", x.fetch(2, 4), 0);
            dueState("anew", x, 4, 1, 0, 0, 0);
            due("back() to three", x.back(image), 3);
            dueState("back", x, 14, 3, 0, 10, 0);
            due("back() once more", x.back(image), 3);
            dueState("back once more", x, 14, 3, 0, 10, 0);
            due("back() of the other", x.back(1 - image), -2);
        }
    }

    private static void imagesKeepNothingElse() {
        CarryFirst x = Checks.in(HOUSE);
        due("keep(0)", x.keep(0), 0);
        int[] tunes = {7, 33, 11, 5};
        for (int what = 0; what < 4; what++) x.tune(what, tunes[what]);
        x.chance(0, 3, 6);
        x.price(2, 0);
        Checks.type(x, "rooms 5;");
        due("back(0)", x.back(0), 0);
        for (int what = 0; what < 4; what++) due("tune(" + what + ", 1)", x.tune(what, 1), tunes[what]);
        dueChances("after back()", x, 4, 0, 0, 6, 0);
        due("trace()", x.trace(), 101);
        due("count(5)", x.count(5), 8);
        due("house()", x.house(), 1);
        due("count(0)", x.count(0), 5);
    }

    private static void imagesAreTwo() {
        CarryFirst x = Checks.in(HOUSE);
        due("fetch(0, 1)", x.fetch(0, 1), 4);
        due("keep(0)", x.keep(0), 1);
        due("fetch(0, 8)", x.fetch(0, 8), 8);
        x.tune(4, 1);
        due("keep(1)", x.keep(1), 2);
        for (int i = 0; i < 2; i++) {
            due("back(0)", x.back(0), 1);
            dueState("IMAGE 0", x, 1, 0, 4, 0, 0);
            due("back(1)", x.back(1), 2);
            dueState("IMAGE 1", x, 9, 1, 8, 0, 0);
        }
        int[] none = {-1, 2, 2147483647, -2147483648};
        for (int image : none) {
            due("keep(" + image + ")", x.keep(image), -1);
            due("back(" + image + ")", x.back(image), -1);
        }
        dueState("as it was", x, 9, 1, 8, 0, 0);
    }

    private static void imagesKeptAgain() {
        CarryFirst x = Checks.in(HOUSE);
        due("keep(0)", x.keep(0), 0);
        due("fetch(1, 4)", x.fetch(1, 4), 0);
        due("keep(0)", x.keep(0), 1);
        due("anew()", x.anew(), 1);
        due("back(0)", x.back(0), 1);
        dueState("the later one", x, 4, 0, 0, 0, 0);
        // what comes behind a keep() or a back() leaves the IMAGE alone
        due("fetch(1, 2)", x.fetch(1, 2), 6);
        x.tune(4, 3);
        due("back(0)", x.back(0), 1);
        dueState("the later one", x, 4, 0, 0, 0, 0);
        due("fetch(0, 1)", x.fetch(0, 1), 4);
        due("anew()", x.anew(), 2);
        due("back(0)", x.back(0), 1);
        dueState("the later one", x, 4, 0, 0, 0, 0);
    }

    private static void aHouseReadAnew() {
        CarryFirst x = Checks.in(HOUSE);
        int[] tunes = {9, 90, 30, 9};
        for (int what = 0; what < 4; what++) x.tune(what, tunes[what]);
        x.chance(0, 4, 10);
        x.price(5, 1);
        due("fetch(1, 2)", x.fetch(1, 2), 6);
        x.tune(4, 3);
        x.keep(0);
        x.keep(1);
        // a text that is refused: all stays
        Checks.type(x, "rooms 2;#");
        due("house() of a FAULT", x.house(), -18);
        dueState("after a FAULT", x, 2, 3, 0, 6, 0);
        due("back(0)", x.back(0), 1);
        due("back(1)", x.back(1), 1);
        due("clear()", x.clear(), 9);
        // the same house once more
        Checks.read(x, HOUSE);
        dueState("read anew", x, 0, 0, 0, 0, 0);
        due("back(0)", x.back(0), -2);
        due("back(1)", x.back(1), -2);
        due("anew()", x.anew(), 0);
        due("count(5)", x.count(5), 0);
        dueChances("read anew", x, 0, 0, 0, 0, 10);
        due("trace()", x.trace(), 100001);
        due("room(0, 2)", x.room(0, 2), 67);
        due("room(0, 3)", x.room(0, 3), 37);
        for (int what = 0; what < 4; what++) due("tune(" + what + ", 1)", x.tune(what, 1), tunes[what]);
        due("tune(4, 0)", x.tune(4, 0), 0);
        // and nothing at all
        due("fetch(0, 1)", x.fetch(0, 1), 4);
        due("house() of nothing", x.house(), 0);
        due("saved(1)", x.saved(1), 0);
        due("saved(2)", x.saved(2), 0);
        due("trace()", x.trace(), 100001);
    }

    private static void anotherHouse() {
        // the BUNDLES in other ROOMS, other men, other WAYS; there and back
        String first = "rooms 3;way 0 1 1;way 0 2 5 door;bundle 1 2 3 1;bundle 1 2 4 1;bundle 2 2 5 1;man 6;man 2;fire 0 90;";
        String second = "rooms 3;way 0 2 4 door;way 0 1 3;bundle 2 3 9 1;bundle 1 3 8 1;bundle 2 3 9 1;man 3;";
        CarryFirst x = Checks.in(first);
        for (int i = 0; i < 3; i++) {
            int[] one = {12, 7, 3, 12};
            due("first house: why(0, 3)", x.why(0, 3), 0);
            due("first house: why(0, 5)", x.why(0, 5), 2);
            due("first house: why(1, 3)", x.why(1, 3), 1);
            for (int what = 0; what < 4; what++) due("first house: one(0, " + what + ")", x.one(0, what), one[what]);
            due("first house: all(1)", x.all(1), 7);
            due("first house: run(1, 1, 2)", x.run(1, 1, 2), 13);
            due("first house: place(2, 2)", x.place(2, 2), 2);
            due("first house: lost(93, 0)", x.lost(93, 0), 7);
            Checks.read(x, second);
            int[] other = {26, 7, 1, 22};
            due("second house: why(0, 3)", x.why(0, 3), 1);
            due("second house: why(0, 5)", x.why(0, 5), 1);
            for (int what = 0; what < 4; what++) due("second house: one(0, " + what + ")", x.one(0, what), other[what]);
            due("second house: all(0)", x.all(0), 7);
            due("second house: all(1)", x.all(1), -1);
            due("second house: run(1, 1, 2)", x.run(1, 1, 2), 15);
            due("second house: place(2, 2)", x.place(2, 2), 0);
            due("second house: place(1, 2)", x.place(1, 2), 1);
            due("second house: lost(999, 0)", x.lost(999, 0), 0);
            Checks.read(x, first);
        }
        // of two that were in one ROOM either is in another now
        for (int r = 0; r < 2; r++) {
            String both = "rooms 2;way 0 1 3;" + ("bundle " + r + " 1 1 1;").repeat(2) + "man 2;";
            CarryFirst y = Checks.in(both);
            due("both in " + r, y.why(0, 3), 0);
            Checks.read(y, "rooms 2;way 0 1 3;bundle " + r + " 1 1 1;bundle " + (1 - r) + " 1 1 1;man 2;");
            due("the first in " + r, y.why(0, 3), 2);
            due("the first in " + r, y.one(0, 3), 6);
            Checks.read(y, "rooms 2;way 0 1 3;bundle " + (1 - r) + " 1 1 1;bundle " + r + " 1 1 1;man 2;");
            due("the second in " + r, y.why(0, 3), 2);
            due("the second in " + r, y.one(0, 3), 6);
            Checks.read(y, both);
            due("both in " + r, y.why(0, 3), 0);
        }
    }
}
