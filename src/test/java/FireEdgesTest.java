/** What "Terms" says of FAR, PATH, BURNS, LEAVE, FETCHINGS and THE PLAN, a test for each sentence with an edge. */
public final class FireEdgesTest {
    /** FAR 2, 5, 9; a FETCHING from ROOM 3 that begins in t is last in ROOM 3, 2, 1, 0 in t and 9, 13, 16, 18. */
    private static final String ROW = "rooms 4;way 0 1 2;way 1 2 3;way 2 3 4;bundle 3 1 1 1;bundle 1 1 1 1;man 1;man 1;";

    public static void main(String[] args) {
        atFirstOneRoom();
        tunesAtFirst();
        tunesLeastAndGreatest();
        shutIsOfDoorsAlone();
        farIsTheFewestMinutes();
        farByManyWays();
        farNotByShut();
        pathByTheLeastRoom();
        pathLikewise();
        pathIsWhatMustBeLeft();
        burnsInItsOwnRoom();
        burnsBySpread();
        burnsTheLeastOverAllFires();
        burnsHoldForEachDoorThatIsShut();
        burnsAroundADoor();
        burnsAtTheLatest();
        burnsNone();
        leaveZeroAtLeast();
        leaveNever();
        fetchingOneAtLeast();
        fetchingOfLoadAtMost();
        safeAheadOfLeaveInEachRoom();
        safeWhateverBurnsBesidesThePath();
        safeNeverWhereLeaveIsZero();
        eachManBeginsWhenHeIsBack();
        whyTheFirstOfThese();
        anewAndSaved();
        Checks.end();
    }

    private static void due(String call, long got, long want) {
        Checks.due(call, got, want);
    }

    private static void dueRow(String name, CarryFirst x, int what, int... want) {
        for (int r = 0; r < want.length; r++) due(name + ": room(" + r + ", " + what + ")", x.room(r, what), want[r]);
    }

    // ---- the house and the tunes

    private static void atFirstOneRoom() {
        CarryFirst x = new CarryFirst();
        due("count(0)", x.count(0), 1);
        for (int what = 1; what < 6; what++) due("count(" + what + ")", x.count(what), 0);
        int[] room = {0, -9, -9, -9};
        for (int what = 0; what < 4; what++) due("room(0, " + what + ")", x.room(0, what), room[what]);
        due("room(1, 0)", x.room(1, 0), -1);
        due("clear()", x.clear(), 0);
        for (int what = 0; what < 3; what++) due("saved(" + what + ")", x.saved(what), 0);
        for (int what = 0; what < 2; what++) due("lost(999, " + what + ")", x.lost(999, what), 0);
        due("loads(0, 40, 999, 0)", x.loads(0, 40, 999, 0), 39960);
    }

    private static void tunesAtFirst() {
        int[] first = {3, 20, 2, 2, 0};
        for (int what = 0; what < 5; what++) due("tune(" + what + ", 1)", new CarryFirst().tune(what, 1), first[what]);
        // they are so, too, for what is told by them
        CarryFirst x = Checks.in("rooms 2;way 0 1 5 door;fire 1 0;" + "bundle 0 30 1 1;".repeat(3));
        dueRow("SPREAD 3", x, 2, 15, 0);
        dueRow("SMOKE 2", x, 3, 13, 0);
        x.tune(4, 1);
        dueRow("HOLD 20", x, 2, 35, 0);
        due("run(2, 3, 2) with STAIR 2", x.run(2, 3, 2), 1);
    }

    private static void tunesLeastAndGreatest() {
        int[] least = {1, 0, 0, 1, 0};
        int[] most = {9, 90, 30, 9, 4095};
        for (int what = 0; what < 5; what++) {
            CarryFirst x = new CarryFirst();
            int was = x.tune(what, least[what]);
            due("tune(" + what + ", too little)", x.tune(what, least[what] - 1), -1);
            due("tune(" + what + ", too much)", x.tune(what, most[what] + 1), -1);
            due("tune(" + what + ", most)", x.tune(what, most[what]), least[what]);
            // a new object has no DOORS that could be SHUT
            due("tune(" + what + ", as it was)", x.tune(what, was), what == 4 ? 0 : most[what]);
        }
    }

    private static void shutIsOfDoorsAlone() {
        // DOORS on the WAYS 0 and 11
        CarryFirst x = Checks.in("rooms 2;way 0 1 1 door;" + "way 0 1 1;".repeat(10) + "way 0 1 1 door;");
        int[][] rows = {{4095, 2049}, {2046, 0}, {1, 1}, {2048, 2048}, {2049, 2049}, {4094, 2048}, {0, 0}};
        int was = 0;
        for (int[] row : rows) {
            due("tune(4, " + row[0] + ")", x.tune(4, row[0]), was);
            was = row[1];
            for (int w = 0; w < 12; w++) due("way(" + w + ", 4) by " + row[0], x.way(w, 4), was >> w & 1);
        }
    }

    // ---- FAR and PATH

    private static void farIsTheFewestMinutes() {
        // the shorter of two WAYS; two WAYS that are shorter than one; told in either order
        CarryFirst x = Checks.in("rooms 5;way 1 0 9;way 0 1 4;way 2 0 1;way 1 2 2;way 3 4 1;");
        dueRow("FAR", x, 0, 0, 3, 1, -9, -9);
        dueRow("ahead", x, 1, -9, 2, 0, -9, -9);
    }

    private static void farByManyWays() {
        String forth = "way 0 1 30;way 1 2 30;way 2 3 30;way 3 4 30;way 4 5 30;way 5 6 30;way 6 7 30;";
        String back = "way 7 6 30;way 6 5 30;way 5 4 30;way 4 3 30;way 3 2 30;way 2 1 30;way 1 0 30;";
        for (String ways : new String[] {forth, back}) {
            CarryFirst x = Checks.in("rooms 8;" + ways + "fire 7 0;");
            dueRow("seven WAYS", x, 0, 0, 30, 60, 90, 120, 150, 180, 210);
            dueRow("seven WAYS", x, 1, -9, 0, 1, 2, 3, 4, 5, 6);
            dueRow("seven WAYS", x, 2, 630, 540, 450, 360, 270, 180, 90, 0);
        }
    }

    private static void farNotByShut() {
        CarryFirst x = Checks.in("rooms 3;way 0 1 5 door;way 1 2 5;way 0 1 7 door;");
        dueRow("open", x, 0, 0, 5, 10);
        x.tune(4, 1);
        dueRow("one SHUT", x, 0, 0, 7, 12);
        x.tune(4, 5);
        dueRow("both SHUT", x, 0, 0, -9, -9);
        dueRow("both SHUT", x, 1, -9, -9, -9);
        x.tune(4, 4);
        dueRow("the other SHUT", x, 0, 0, 5, 10);
        dueRow("the other SHUT", x, 1, -9, 0, 1);
    }

    private static void pathByTheLeastRoom() {
        // by 2 and by 1, told in either order
        for (String ways : new String[] {"way 2 3 2;way 1 3 2;", "way 3 1 2;way 3 2 2;"}) {
            CarryFirst x = Checks.in("rooms 4;way 0 2 2;way 0 1 2;" + ways);
            dueRow("1 before 2", x, 1, -9, 0, 0, 1);
        }
        // straight from ROOM 0, though by 1 it is as near
        dueRow("0 before 1", Checks.in("rooms 3;way 0 1 2;way 1 2 3;way 0 2 5;"), 1, -9, 0, 0);
        // a MINUTE less by the greater
        dueRow("2 is nearer", Checks.in("rooms 4;way 0 1 2;way 1 3 3;way 0 2 2;way 2 3 2;"), 1, -9, 0, 0, 2);
    }

    private static void pathLikewise() {
        // to 3 by 1, to which by 4 alone; the other by 2 is as far
        CarryFirst x = Checks.in("rooms 5;way 0 4 1;way 4 1 1;way 0 2 2;way 1 3 1;way 2 3 1;");
        dueRow("FAR", x, 0, 0, 2, 2, 3, 1);
        dueRow("the last but one is the least", x, 1, -9, 4, 0, 1, 0);
        // to 5 by 3 or 4, to either by 1 or 2
        CarryFirst y = Checks.in("rooms 6;way 5 4 1;way 5 3 1;way 4 2 1;way 4 1 1;way 3 2 1;way 3 1 1;way 2 0 1;way 1 0 1;");
        dueRow("likewise", y, 1, -9, 0, 0, 1, 1, 3);
    }

    private static void pathIsWhatMustBeLeft() {
        // of two PATHS as short the one by ROOM 1 counts: in it he is last in MINUTE 8
        String house = "rooms 5;way 0 2 2;way 0 1 2;way 2 3 2;way 1 3 2;way 3 4 1;bundle 4 1 1 1;man 1;fire ";
        for (int burning = 1; burning <= 2; burning++) {
            CarryFirst x = Checks.in(house + burning + " 9;");
            x.tune(0, 9);
            due("LEAVE", x.room(burning, 3), 7);
            due("fetch(0, 1), a fire in " + burning, x.fetch(0, 1), burning == 1 ? -2 : 10);
        }
    }

    // ---- BURNS and LEAVE

    private static void burnsInItsOwnRoom() {
        for (int minute = 0; minute <= 99; minute += 33) {
            CarryFirst x = Checks.in("rooms 2;fire 1 " + minute + ";");
            dueRow("one fire", x, 2, -9, minute);
        }
        dueRow("two fires in one", Checks.in("rooms 2;fire 1 50;fire 1 49;"), 2, -9, 49);
        dueRow("four fires", Checks.in("rooms 4;fire 3 1;fire 2 2;fire 1 3;fire 0 4;"), 2, 4, 3, 2, 1);
    }

    private static void burnsBySpread() {
        for (int spread = 1; spread <= 9; spread++) {
            CarryFirst x = Checks.in("rooms 3;way 0 1 7;way 2 1 30;fire 1 5;");
            x.tune(0, spread);
            dueRow("SPREAD " + spread, x, 2, 5 + 7 * spread, 5, 5 + 30 * spread);
        }
    }

    private static void burnsTheLeastOverAllFires() {
        // 10 and 3 times 4 from the one, 20 and 3 times 1 from the other
        CarryFirst x = Checks.in("rooms 3;way 0 1 1;way 1 2 4;fire 0 20;fire 2 10;");
        dueRow("two fires", x, 2, 20, 22, 10);
        x.tune(0, 1);
        dueRow("two fires, slower", x, 2, 15, 14, 10);
        // one that is later than the fire that comes to it
        dueRow("a fire that is too late", Checks.in("rooms 2;way 0 1 2;fire 0 99;fire 1 3;"), 2, 9, 3);
    }

    private static void burnsHoldForEachDoorThatIsShut() {
        String house = "rooms 4;way 0 1 1 door;way 1 2 1;way 2 3 1 door;fire 3 0;";
        int[][] rows = {{0, 20, 9, 6, 3}, {1, 20, 29, 6, 3}, {8, 20, 9, 6, 3}, {4, 20, 29, 26, 23}, {5, 20, 49, 26, 23},
            {5, 0, 9, 6, 3}, {5, 1, 11, 7, 4}, {5, 90, 189, 96, 93}};
        for (int[] row : rows) {
            CarryFirst x = Checks.in(house);
            x.tune(4, row[0]);
            x.tune(1, row[1]);
            dueRow("SHUT " + row[0] + ", HOLD " + row[1], x, 2, row[2], row[3], row[4], 0);
        }
    }

    private static void burnsAroundADoor() {
        // by the DOOR 3 and HOLD, around it 24; of two DOORS the one that is open
        String house = "rooms 3;way 0 1 1 door;way 0 2 4;way 1 2 4;fire 1 0;";
        for (int hold : new int[] {20, 21, 22}) {
            CarryFirst x = Checks.in(house);
            x.tune(1, hold);
            x.tune(4, 1);
            dueRow("HOLD " + hold, x, 2, Math.min(24, 3 + hold), 0, 12);
        }
        CarryFirst y = Checks.in("rooms 2;way 0 1 1 door;way 0 1 2 door;fire 1 0;");
        dueRow("both open", y, 2, 3, 0);
        y.tune(4, 1);
        dueRow("the first SHUT", y, 2, 6, 0);
        y.tune(4, 3);
        dueRow("both SHUT", y, 2, 23, 0);
    }

    private static void burnsAtTheLatest() {
        CarryFirst x = Checks.in("rooms 8;way 7 6 30 door;way 6 5 30 door;way 5 4 30 door;way 4 3 30 door;way 3 2 30 door;"
            + "way 2 1 30 door;way 1 0 30;fire 7 99;");
        x.tune(0, 9);
        x.tune(1, 90);
        x.tune(4, 4095);
        dueRow("BURNS", x, 2, 2529, 2259, 1899, 1539, 1179, 819, 459, 99);
        dueRow("LEAVE", x, 3, 2527, 2257, 1897, 1537, 1177, 817, 457, 97);
        dueRow("FAR", x, 0, 0, 30, -9, -9, -9, -9, -9, -9);
    }

    private static void burnsNone() {
        dueRow("no fire", Checks.in("rooms 2;way 0 1 1;"), 2, -9, -9);
        dueRow("no WAY from it", Checks.in("rooms 3;way 0 1 1;fire 2 0;"), 2, -9, -9, 0);
        // a DOOR that is SHUT holds a fire, it doesn't keep it out
        CarryFirst x = Checks.in("rooms 2;way 0 1 1 door;fire 1 0;");
        x.tune(4, 1);
        dueRow("DOOR SHUT", x, 2, 23, 0);
    }

    private static void leaveZeroAtLeast() {
        CarryFirst x = Checks.in("rooms 2;way 0 1 1;fire 1 7;");
        int[][] rows = {{0, 7, 10}, {6, 1, 4}, {7, 0, 3}, {8, 0, 2}, {9, 0, 1}, {10, 0, 0}, {11, 0, 0}, {30, 0, 0}};
        for (int[] row : rows) {
            x.tune(2, row[0]);
            dueRow("SMOKE " + row[0], x, 3, row[2], row[1]);
            dueRow("SMOKE " + row[0], x, 2, 10, 7);
        }
        dueRow("LEAVE of a fire at once", Checks.in("rooms 1;fire 0 0;"), 3, 0);
    }

    private static void leaveNever() {
        CarryFirst x = Checks.in("rooms 3;way 0 1 1;fire 2 9;bundle 1 1 1 1;man 1;");
        for (int smoke = 0; smoke <= 30; smoke += 15) {
            x.tune(2, smoke);
            dueRow("never", x, 3, -9, -9);
        }
        due("fetch(0, 1)", x.fetch(0, 1), 2);
    }

    // ---- FETCHINGS

    private static void fetchingOneAtLeast() {
        CarryFirst x = Checks.in(ROW);
        due("fetch(0, 0)", x.fetch(0, 0), -1);
        due("why(0, 0)", x.why(0, 0), -1);
        due("sure(0, 0, 0)", x.sure(0, 0, 0), -1);
        due("last(0, 0, 1)", x.last(0, 0, 1), -1);
        // one that is worth nothing is one, too
        CarryFirst y = Checks.in("rooms 1;bundle 0 1 0 0;man 1;");
        due("fetch(0, 1)", y.fetch(0, 1), 0);
        due("saved(1)", y.saved(1), 1);
        due("saved(0)", y.saved(0), 0);
    }

    private static void fetchingOfLoadAtMost() {
        int[][] rows = {{1, 1, 1, 0}, {99, 99, 1, 0}, {98, 99, 1, 1}, {99, 98, 3, 0}, {99, 99, 3, 1}, {50, 49, 3, 0}, {49, 49, 3, 1}};
        for (int[] row : rows) {
            CarryFirst x = Checks.in("rooms 1;bundle 0 " + row[1] + " 1 1;bundle 0 1 1 1;man " + row[0] + ";");
            due("why(0, " + row[2] + ") of " + row[1] + " by " + row[0], x.why(0, row[2]), row[3]);
            due("fetch(0, " + row[2] + ")", x.fetch(0, row[2]), row[3] == 0 ? 0 : -2);
        }
        // all ten together
        String ten = "rooms 1;" + "bundle 0 9 1 1;".repeat(9) + "bundle 0 18 1 1;man ";
        due("fetch(0, 1023)", Checks.in(ten + "99;").fetch(0, 1023), 0);
        due("fetch(0, 1023)", Checks.in(ten + "98;").fetch(0, 1023), -2);
    }

    private static void safeAheadOfLeaveInEachRoom() {
        int[] last = {18, 16, 13, 9};
        for (int begin = 0; begin <= 4; begin += 4) {
            for (int r = 0; r < 4; r++) {
                for (int more = 0; more <= 1; more++) {
                    // SMOKE is 2
                    CarryFirst x = Checks.in(ROW + "fire " + r + " " + (begin + last[r] + 2 + more) + ";");
                    x.tune(0, 9);
                    if (begin == 4) due("fetch(0, 2)", x.fetch(0, 2), 4);
                    String name = "a fire in " + r + ", begun in " + begin + ", " + more + " more: ";
                    due(name + "why", x.why(0, 1), more == 1 ? 0 : 5);
                    due(name + "fetch", x.fetch(0, 1), more == 1 ? begin + 18 : -2);
                    due(name + "man", x.man(0, 1), more == 1 ? begin + 18 : begin);
                }
            }
        }
    }

    private static void safeWhateverBurnsBesidesThePath() {
        // ROOM 4 burns at once, but nothing leads from it; ROOM 5 is nearly as near
        CarryFirst x = Checks.in("rooms 6;way 0 1 2;way 1 2 3;way 0 5 3;way 5 2 3;bundle 2 1 1 1;man 1;fire 4 0;fire 5 4;");
        x.tune(0, 9);
        due("room(5, 3)", x.room(5, 3), 2);
        due("fetch(0, 1)", x.fetch(0, 1), 10);
    }

    private static void safeNeverWhereLeaveIsZero() {
        for (int minute = 0; minute <= 3; minute++) {
            CarryFirst x = Checks.in("rooms 1;bundle 0 1 1 1;man 1;fire 0 " + minute + ";");
            due("why(0, 1), a fire in " + minute, x.why(0, 1), minute == 3 ? 0 : 5);
            due("one(0, 1)", x.one(0, 1), minute == 3 ? 1 : 0);
            due("all(0)", x.all(0), minute == 3 ? 1 : 0);
            due("run(0, 1, 1)", x.run(0, 1, 1), minute == 3 ? 1 : 0);
            due("doors(1)", x.doors(1), minute == 3 ? 1 : 0);
        }
    }

    // ---- THE PLAN

    private static void eachManBeginsWhenHeIsBack() {
        CarryFirst x = Checks.in("rooms 3;way 0 1 2;way 1 2 3;bundle 1 1 1 1;bundle 2 1 1 1;bundle 0 1 1 1;bundle 1 1 1 1;man 1;man 1;");
        due("fetch(0, 1)", x.fetch(0, 1), 4);
        due("fetch(1, 2)", x.fetch(1, 2), 10);
        due("fetch(0, 4) in ROOM 0", x.fetch(0, 4), 4);
        // a DOOR, a TUNE that changes later leaves what was told
        x.tune(0, 9);
        due("man(0, 1)", x.man(0, 1), 4);
        due("fetch(0, 8)", x.fetch(0, 8), 8);
        due("man(1, 1)", x.man(1, 1), 10);
        due("saved(2)", x.saved(2), 10);
        // ten times as far as may be
        CarryFirst y = Checks.in("rooms 8;way 0 1 30;way 1 2 30;way 2 3 30;way 3 4 30;way 4 5 30;way 5 6 30;way 6 7 30;"
            + "bundle 7 1 1 1;".repeat(10) + "man 1;");
        for (int b = 0; b < 10; b++) due("fetch(0, " + (1 << b) + ")", y.fetch(0, 1 << b), 420 * (b + 1));
        due("saved(2)", y.saved(2), 4200);
        due("saved(1)", y.saved(1), 1023);
    }

    private static void whyTheFirstOfThese() {
        // BUNDLES: 0, 1 in ROOM 1 (0 fetched), 2 in ROOM 2 (no way, fetched while there was one), 3 there, 4 in ROOM 3 (not SAFE)
        CarryFirst x = Checks.in("rooms 4;way 0 1 1;way 0 2 1 door;way 0 3 1;bundle 1 5 1 1;bundle 1 5 1 1;bundle 2 5 1 1;"
            + "bundle 2 5 1 1;bundle 3 5 1 1;man 9;man 99;fire 3 2;");
        x.tune(0, 9);
        due("fetch(1, 1)", x.fetch(1, 1), 2);
        due("fetch(1, 4)", x.fetch(1, 4), 4);
        x.tune(4, 2);
        int[][] rows = {{0, 3, 1}, {1, 3, 3}, {0, 31, 1}, {1, 31, 2}, {1, 5, 2}, {1, 12, 3}, {1, 4, 3}, {1, 8, 4}, {1, 24, 2},
            {1, 16, 5}, {0, 16, 5}, {0, 24, 1}, {0, 12, 1}, {1, 2, 0}, {0, 2, 0}, {0, 1, 3}, {0, 8, 4}};
        for (int[] row : rows) due("why(" + row[0] + ", " + row[1] + ")", x.why(row[0], row[1]), row[2]);
        for (int[] row : rows) if (row[2] != 0) due("fetch(" + row[0] + ", " + row[1] + ")", x.fetch(row[0], row[1]), -2);
        due("saved(1)", x.saved(1), 5);
        due("man(1, 1)", x.man(1, 1), 4);
        due("man(0, 1)", x.man(0, 1), 0);
    }

    private static void anewAndSaved() {
        CarryFirst x = Checks.in("rooms 2;way 0 1 3 door;" + "bundle 1 1 99 1;".repeat(10) + "man 9;man 1;man 1;");
        due("anew() of nothing", x.anew(), 0);
        due("fetch(0, 511)", x.fetch(0, 511), 6);
        due("fetch(2, 512)", x.fetch(2, 512), 6);
        int[] saved = {990, 1023, 6};
        for (int what = 0; what < 3; what++) due("saved(" + what + ")", x.saved(what), saved[what]);
        due("anew() of all", x.anew(), 10);
        for (int what = 0; what < 3; what++) due("saved(" + what + ")", x.saved(what), 0);
        for (int m = 0; m < 3; m++) due("man(" + m + ", 1)", x.man(m, 1), 0);
        for (int b = 0; b < 10; b++) due("bundle(" + b + ", 4)", x.bundle(b, 4), 0);
        due("fetch(0, 511)", x.fetch(0, 511), 6);
        // of the MINUTES the latest, whosever it is
        due("fetch(1, 512)", x.fetch(1, 512), 6);
        due("saved(2)", x.saved(2), 6);
    }
}
