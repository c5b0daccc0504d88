/** What "Terms" says of ONE, ALL, a RUN and BEST DOORS, a test for each sentence with an edge. */
public final class MostEdgesTest {
    private static final int[] LEAST_FIRST = {1, 2, 3, 4};

    public static void main(String[] args) {
        oneMostWorthNotMostBundles();
        oneOfSeveralSetsTheLeast();
        oneWithoutWhatIsWorthNothing();
        oneInEveryOrder();
        oneTheLeastFirstFetching();
        oneInTheFewestMinutes();
        oneNoneCanBe();
        oneFromNow();
        oneAtTheLatest();
        allAsOne();
        allNoBundleTwice();
        allEachFromHisMinute();
        allTheLeastSetManByMan();
        allAndNobody();
        runOfOneToNineMen();
        runWithLoad30();
        runTakesByWorth();
        runFromMinuteZeroNothingFetched();
        runForTheRoomOfTheRule();
        runOfSeveralTheLeastRoom();
        runOnlyWhereItIsSafe();
        runByTheStair();
        runFreeAMinuteLater();
        runTheStairMakesLate();
        runNoneIsLeft();
        doorsOfSeveralTheLeast();
        doorsAllSix();
        doorsNone();
        doorsOfManZeroFromTheBeginning();
        Checks.end();
    }

    private static void due(String call, long got, long want) {
        Checks.due(call, got, want);
    }

    // ---- ONE

    private static void oneMostWorthNotMostBundles() {
        // in time for one FETCHING from ROOM 1
        String house = "rooms 2;way 0 1 2;bundle 1 2 4 0;bundle 1 3 4 0;bundle 1 5 ";
        Checks.dueOne("two", Checks.in(house + "7 0;man 5;fire 0 7;"), 0, 8, 3, 3, 4);
        Checks.dueOne("one", Checks.in(house + "9 0;man 5;fire 0 7;"), 0, 9, 4, 4, 4);
        Checks.dueOne("two, for the LOAD", Checks.in(house + "9 0;man 8;fire 0 7;"), 0, 13, 5, 5, 4);
        Checks.dueOne("three", Checks.in(house + "9 0;man 10;fire 0 7;"), 0, 17, 7, 7, 4);
        Checks.dueOne("one, for the LOAD", Checks.in(house + "9 0;man 4;fire 0 7;"), 0, 4, 1, 1, 4);
    }

    private static void oneOfSeveralSetsTheLeast() {
        Checks.dueOne("3 before 4", Checks.in("rooms 2;way 0 1 2;bundle 1 2 3 0;bundle 1 2 4 0;bundle 1 4 7 0;man 4;fire 0 7;"), 0, 7, 3, 3, 4);
        Checks.dueOne("1 before 6", Checks.in("rooms 2;way 0 1 2;bundle 1 4 7 0;bundle 1 2 4 0;bundle 1 2 3 0;man 4;fire 0 7;"), 0, 7, 1, 1, 4);
        // though it takes longer
        Checks.dueOne("1 before 2", Checks.in("rooms 3;way 0 1 3;way 0 2 1;bundle 1 1 5 0;bundle 2 1 5 0;man 1;fire 0 9;"), 0, 5, 1, 1, 6);
        // 512 and 511
        String nine = "bundle 1 1 1 0;".repeat(9);
        Checks.dueOne("511 before 512", Checks.in("rooms 2;way 0 1 2;" + nine + "bundle 1 9 9 0;man 9;fire 0 7;"), 0, 9, 511, 511, 4);
        Checks.dueOne("512, for it is more", Checks.in("rooms 2;way 0 1 2;" + nine + "bundle 1 9 10 0;man 9;fire 0 7;"), 0, 10, 512, 512, 4);
    }

    private static void oneWithoutWhatIsWorthNothing() {
        Checks.dueOne("0 is left", Checks.in("rooms 1;bundle 0 1 0 0;bundle 0 1 1 0;bundle 0 1 0 0;man 9;"), 0, 1, 2, 2, 0);
        Checks.dueOne("all are left", Checks.in("rooms 2;way 0 1 1;bundle 1 1 0 0;bundle 0 1 0 0;man 9;"), 0, 0, 0, 0, 0);
    }

    private static void oneInEveryOrder() {
        // four ROOMS, FAR 1, each in time only in its turn
        for (int code = 0; code < 256; code++) {
            int[] turn = {code >> 6 & 3, code >> 4 & 3, code >> 2 & 3, code & 3};
            if ((1 << turn[0] | 1 << turn[1] | 1 << turn[2] | 1 << turn[3]) != 15) continue;
            StringBuilder s = new StringBuilder("rooms 5;");
            for (int r : LEAST_FIRST) s.append("way 0 ").append(r).append(" 1;bundle ").append(r).append(" 1 ").append(r).append(" 0;");
            for (int i = 0; i < 4; i++) s.append("fire ").append(turn[i] + 1).append(' ').append(2 * i + 2).append(';');
            CarryFirst x = Checks.in(s + "man 1;man 1;");
            x.tune(0, 9);
            x.tune(2, 0);
            String name = "in turn " + turn[0] + turn[1] + turn[2] + turn[3];
            Checks.dueOne(name, x, 0, 10, 15, 1 << turn[0], 8);
            Checks.dueAll(name, x, 10, 0, 15);
            // as it goes, what is left goes likewise
            for (int i = 0; i < 3; i++) {
                due(name + ": fetch()", x.fetch(0, 1 << turn[i]), 2 * i + 2);
                due(name + ": one(0, 2)", x.one(0, 2), 1 << turn[i + 1]);
            }
            // a MINUTE less, and the last one is lost
            x.anew();
            x.tune(2, 1);
            due(name + ": one(0, 0)", x.one(0, 0) < 10 ? 1 : 0, 1);
        }
    }

    private static void oneTheLeastFirstFetching() {
        // of a near ROOM and a far one; the least may be in either
        Checks.dueOne("far first", Checks.in("rooms 3;way 0 1 1;way 0 2 9;bundle 2 1 1 0;bundle 1 1 1 0;man 1;"), 0, 2, 3, 1, 20);
        Checks.dueOne("near first", Checks.in("rooms 3;way 0 1 1;way 0 2 9;bundle 1 1 1 0;bundle 2 1 1 0;man 1;"), 0, 2, 3, 1, 20);
        // of three, each two of which go together, the first alone
        Checks.dueOne("alone", Checks.in("rooms 2;way 0 1 1;bundle 1 1 1 0;bundle 1 1 1 0;bundle 1 1 1 0;man 2;"), 0, 3, 7, 1, 4);
        // four in two: none may go alone
        Checks.dueOne("two by two", Checks.in("rooms 2;way 0 1 1;" + "bundle 1 1 1 0;".repeat(4) + "man 2;"), 0, 4, 15, 3, 4);
        // what he can't save is in no FETCHING of it
        Checks.dueOne("without one", Checks.in("rooms 2;way 0 1 1;bundle 1 3 9 0;bundle 1 1 1 0;bundle 1 1 1 0;man 2;"), 0, 2, 6, 6, 2);
        // only together are they in time
        Checks.dueOne("together", Checks.in("rooms 2;way 0 1 2;bundle 1 1 1 0;bundle 1 1 1 0;man 2;fire 0 7;"), 0, 2, 3, 3, 4);
        // from ROOM 0 each alone, as it takes no time
        Checks.dueOne("no time", Checks.in("rooms 2;way 0 1 2;bundle 1 1 1 0;bundle 0 2 1 0;bundle 0 2 1 0;man 3;fire 0 7;"), 0, 3, 7, 1, 4);
    }

    private static void oneInTheFewestMinutes() {
        // WEIGHTS 3, 3, 2, 2, 2 by LOAD 6: two FETCHINGS, 3 and 3, then the others; not 3 and 2 first
        Checks.dueOne("twice", Checks.in("rooms 2;way 0 1 5;bundle 1 3 1 0;bundle 1 3 1 0;bundle 1 2 1 0;bundle 1 2 1 0;bundle 1 2 1 0;man 6;"),
            0, 5, 31, 3, 20);
        // by LOAD 5 it takes three, and the first may go alone
        Checks.dueOne("thrice", Checks.in("rooms 2;way 0 1 5;bundle 1 3 1 0;bundle 1 3 1 0;bundle 1 2 1 0;bundle 1 2 1 0;bundle 1 2 1 0;man 5;"),
            0, 5, 31, 1, 30);
    }

    private static void oneNoneCanBe() {
        Checks.dueOne("no BUNDLE", Checks.in("rooms 1;man 9;"), 0, 0, 0, 0, 0);
        Checks.dueOne("too heavy", Checks.in("rooms 1;bundle 0 10 9 0;man 9;"), 0, 0, 0, 0, 0);
        Checks.dueOne("no way", Checks.in("rooms 2;bundle 1 1 9 0;man 9;"), 0, 0, 0, 0, 0);
        Checks.dueOne("not SAFE", Checks.in("rooms 2;way 0 1 1;bundle 1 1 9 0;man 9;fire 1 3;"), 0, 0, 0, 0, 0);
        Checks.dueOne("just SAFE", Checks.in("rooms 2;way 0 1 1;bundle 1 1 9 0;man 9;fire 1 4;"), 0, 9, 1, 1, 2);
        CarryFirst x = Checks.in("rooms 2;way 0 1 7;bundle 1 1 9 0;man 9;man 8;");
        due("fetch(0, 1)", x.fetch(0, 1), 14);
        Checks.dueOne("all was fetched", x, 0, 0, 0, 0, 14);
        Checks.dueOne("all was fetched", x, 1, 0, 0, 0, 0);
    }

    private static void oneFromNow() {
        // back from ROOM 1 by MINUTE 15 at the latest
        CarryFirst x = Checks.in("rooms 2;way 0 1 2;" + "bundle 1 5 1 0;".repeat(5) + "man 5;man 9;fire 0 18;");
        Checks.dueOne("at first", x, 0, 3, 7, 1, 12);
        due("fetch(1, 1)", x.fetch(1, 1), 4);
        Checks.dueOne("of what is left", x, 0, 3, 14, 2, 12);
        due("fetch(0, 16)", x.fetch(0, 16), 4);
        Checks.dueOne("from his MINUTE", x, 0, 2, 6, 2, 12);
        due("keep(0)", x.keep(0), 2);
        due("fetch(0, 2)", x.fetch(0, 2), 8);
        Checks.dueOne("from his MINUTE", x, 0, 1, 4, 4, 12);
        due("fetch(0, 4)", x.fetch(0, 4), 12);
        Checks.dueOne("too late", x, 0, 0, 0, 0, 12);
        due("back(0)", x.back(0), 2);
        Checks.dueOne("as it was", x, 0, 2, 6, 2, 12);
        due("anew()", x.anew(), 2);
        Checks.dueOne("as at first", x, 0, 3, 7, 1, 12);
    }

    private static void oneAtTheLatest() {
        CarryFirst x = Checks.in("rooms 8;way 0 1 30;way 1 2 30;way 2 3 30;way 3 4 30;way 4 5 30;way 5 6 30;way 6 7 30;"
            + "bundle 7 99 99 0;".repeat(10) + "man 99;man 98;");
        Checks.dueOne("ten times", x, 0, 990, 1023, 1, 4200);
        Checks.dueOne("too weak", x, 1, 0, 0, 0, 0);
        Checks.dueAll("the strong one alone", x, 990, 1023, 0);
    }

    // ---- ALL

    private static void allAsOne() {
        CarryFirst x = Checks.in("rooms 2;way 0 1 2;bundle 1 2 3 0;bundle 1 2 4 0;bundle 1 4 7 0;bundle 0 9 0 0;man 4;fire 0 7;");
        Checks.dueAll("one man", x, 7, 3);
        Checks.dueOne("one man", x, 0, 7, 3, 3, 4);
    }

    private static void allNoBundleTwice() {
        Checks.dueAll("one for two", Checks.in("rooms 1;bundle 0 1 5 0;man 1;man 1;"), 5, 0, 1);
        Checks.dueAll("one for three", Checks.in("rooms 1;bundle 0 1 5 0;man 1;man 1;man 1;"), 5, 0, 0, 1);
        // each one would take the BUNDLE 1, if he were alone
        String house = "rooms 2;way 0 1 2;bundle 1 5 4 0;bundle 1 5 9 0;";
        Checks.dueAll("two for two", Checks.in(house + "man 5;man 5;fire 0 7;"), 13, 1, 2);
        Checks.dueAll("two for three", Checks.in(house + "man 5;man 5;man 5;fire 0 7;"), 13, 0, 1, 2);
        Checks.dueAll("two for a strong one", Checks.in(house + "man 5;man 10;fire 0 7;"), 13, 0, 3);
        Checks.dueAll("two for two, one of whom is weak", Checks.in(house + "man 4;man 5;fire 0 7;"), 9, 0, 2);
    }

    private static void allEachFromHisMinute() {
        // one FETCHING each, if he begins in MINUTE 0
        CarryFirst x = Checks.in("rooms 2;way 0 1 2;bundle 1 5 4 0;bundle 1 5 9 0;bundle 1 5 5 0;man 5;man 5;fire 0 7;");
        Checks.dueAll("both", x, 14, 2, 4);
        due("fetch(0, 1)", x.fetch(0, 1), 4);
        Checks.dueAll("man 0 is late", x, 9, 0, 2);
        due("anew()", x.anew(), 1);
        due("fetch(1, 2)", x.fetch(1, 2), 4);
        Checks.dueAll("man 1 is late", x, 5, 4, 0);
        due("fetch(0, 4)", x.fetch(0, 4), 4);
        Checks.dueAll("both are late", x, 0, 0, 0);
    }

    private static void allTheLeastSetManByMan() {
        // man 0 the least, then man 1 the least of what is left
        String four = "rooms 2;way 0 1 2;" + "bundle 1 5 1 0;".repeat(4);
        Checks.dueAll("in time for two", Checks.in(four + "man 5;man 5;fire 0 7;"), 2, 1, 2);
        Checks.dueAll("in time for three", Checks.in(four + "man 5;man 5;man 5;fire 0 7;"), 3, 1, 2, 4);
        Checks.dueAll("man 2 takes two", Checks.in(four + "man 5;man 5;man 10;fire 0 7;"), 4, 1, 2, 12);
        Checks.dueAll("man 1 takes two", Checks.in(four + "man 5;man 10;man 5;fire 0 7;"), 4, 1, 6, 8);
        Checks.dueAll("man 0 takes two", Checks.in(four + "man 10;man 5;man 5;fire 0 7;"), 4, 3, 4, 8);
        Checks.dueAll("man 0 needs take one", Checks.in(four + "man 10;man 10;man 5;fire 0 7;"), 4, 1, 6, 8);
        // the same WORTH in other BUNDLES: 3 of one man for 4 of another
        Checks.dueAll("other BUNDLES", Checks.in("rooms 2;way 0 1 2;bundle 1 2 3 0;bundle 1 2 4 0;bundle 1 4 7 0;man 4;man 1;fire 0 7;"), 7, 3, 0);
        // nobody takes what is worth nothing
        Checks.dueAll("worth nothing", Checks.in("rooms 1;bundle 0 1 0 0;bundle 0 1 1 0;bundle 0 1 0 0;man 9;man 9;man 9;"), 1, 0, 0, 2);
        String ten = "rooms 1;" + "bundle 0 99 99 0;".repeat(10);
        Checks.dueAll("all ten", Checks.in(ten + "man 98;man 99;man 98;"), 990, 0, 1023, 0);
        Checks.dueAll("none of ten", Checks.in(ten + "man 98;man 98;man 98;"), 0, 0, 0, 0);
    }

    private static void allAndNobody() {
        Checks.dueAll("no man", Checks.in("rooms 1;bundle 0 1 9 0;"), 0);
        Checks.dueAll("no man, no BUNDLE", new CarryFirst(), 0);
        Checks.dueAll("no BUNDLE", Checks.in("rooms 1;man 1;man 1;man 1;"), 0, 0, 0, 0);
    }

    // ---- a RUN

    private static void runOfOneToNineMen() {
        // FAR 2: out in 4, free in 5
        CarryFirst x = Checks.in("rooms 2;way 0 1 2;" + "bundle 1 30 1 0;".repeat(10));
        x.tune(3, 9);
        int[] ends = {49, 24, 19, 14, 9, 9, 9, 9, 9};
        for (int rule = 0; rule <= 2; rule++) {
            for (int n = 1; n <= 9; n++) Checks.dueRun(n + " men", x, rule, n, 10, 1023, ends[n - 1]);
            due("run(" + rule + ", 0, 0)", x.run(rule, 0, 0), -1);
            due("run(" + rule + ", 10, 0)", x.run(rule, 10, 0), -1);
        }
    }

    private static void runWithLoad30() {
        for (int rule = 0; rule <= 2; rule++) {
            Checks.dueRun("30", Checks.in("rooms 2;way 0 1 2;bundle 1 30 5 0;"), rule, 1, 5, 1, 4);
            Checks.dueRun("31", Checks.in("rooms 2;way 0 1 2;bundle 1 31 5 0;"), rule, 9, 0, 0, 0);
            Checks.dueRun("20 and 10", Checks.in("rooms 2;way 0 1 2;bundle 1 20 5 0;bundle 1 10 5 0;"), rule, 1, 10, 3, 4);
            Checks.dueRun("20 and 11", Checks.in("rooms 2;way 0 1 2;bundle 1 20 5 0;bundle 1 11 5 0;"), rule, 1, 10, 3, 9);
            // the men of the house, what they can carry, is not asked for
            Checks.dueRun("weak men", Checks.in("rooms 2;way 0 1 2;bundle 1 30 5 0;man 1;"), rule, 1, 5, 1, 4);
            Checks.dueRun("strong men", Checks.in("rooms 2;way 0 1 2;bundle 1 31 5 0;man 99;"), rule, 1, 0, 0, 0);
        }
    }

    private static void runTakesByWorth() {
        // in time for one FETCHING
        String house = "rooms 2;way 0 1 2;fire 0 7;";
        String[] bundles = {
            "bundle 1 20 5 0;bundle 1 15 4 0;bundle 1 10 3 0;", "bundle 1 10 3 0;bundle 1 15 4 0;bundle 1 20 5 0;",
            "bundle 1 20 5 0;bundle 1 20 5 0;bundle 1 10 5 0;", "bundle 1 29 9 0;bundle 1 2 8 0;bundle 1 1 0 0;",
            "bundle 1 31 99 0;bundle 1 30 0 0;", "bundle 1 16 6 0;bundle 1 15 5 0;bundle 1 15 5 0;"};
        int[][] want = {{8, 5}, {8, 5}, {10, 5}, {9, 5}, {0, 2}, {6, 1}};
        for (int i = 0; i < want.length; i++) Checks.dueRun("BUNDLES " + i, Checks.in(house + bundles[i]), 0, 1, want[i][0], want[i][1], 4);
    }

    private static void runFromMinuteZeroNothingFetched() {
        CarryFirst x = Checks.in("rooms 2;way 0 1 2;bundle 1 30 5 0;man 30;man 30;fire 0 7;");
        due("fetch(0, 1)", x.fetch(0, 1), 4);
        Checks.dueRun("fetched in THE PLAN", x, 0, 1, 5, 1, 4);
        due("saved(1)", x.saved(1), 1);
        due("man(0, 1)", x.man(0, 1), 4);
        due("anew()", x.anew(), 1);
        Checks.dueRun("anew", x, 0, 1, 5, 1, 4);
        due("saved(1)", x.saved(1), 0);
    }

    private static void runForTheRoomOfTheRule() {
        // in time for one: NEAR ROOM 1 (LEAVE 6), RICH ROOM 2 (30, not the 31), CLOSE ROOM 3
        CarryFirst x = Checks.in("rooms 5;way 0 1 4;way 0 2 3;way 0 3 2;way 0 4 3;bundle 1 1 3 0;bundle 2 30 8 0;bundle 3 1 4 0;"
            + "bundle 1 31 99 0;bundle 3 31 99 0;bundle 4 29 7 0;fire 1 8;fire 2 9;fire 3 10;fire 0 11;");
        x.tune(0, 9);
        Checks.dueRun("NEAR", x, 0, 1, 3, 1, 8);
        Checks.dueRun("RICH", x, 1, 1, 8, 2, 6);
        Checks.dueRun("CLOSE", x, 2, 1, 4, 4, 4);
        // two men: the second one goes for what is left
        Checks.dueRun("NEAR", x, 0, 2, 11, 3, 8);
        Checks.dueRun("RICH", x, 1, 2, 15, 34, 6);
        Checks.dueRun("CLOSE", x, 2, 2, 12, 6, 6);
    }

    private static void runOfSeveralTheLeastRoom() {
        // all alike but for the number, whichever is told first
        String[] bundles = {"bundle 1 30 5 0;bundle 2 30 5 0;bundle 3 30 5 0;", "bundle 3 30 5 0;bundle 2 30 5 0;bundle 1 30 5 0;"};
        int[][] sets = {{1, 3, 7}, {4, 6, 7}};
        for (int i = 0; i < 2; i++) {
            for (int rule = 0; rule <= 2; rule++) {
                CarryFirst x = Checks.in("rooms 4;way 3 0 2;way 2 0 2;way 1 0 2;" + bundles[i] + "fire 0 8;");
                x.tune(3, 9);
                for (int n = 1; n <= 3; n++) Checks.dueRun("least ROOM", x, rule, n, 5 * n, sets[i][n - 1], 4);
            }
        }
    }

    private static void runOnlyWhereItIsSafe() {
        // ROOM 1 would be told of by each RULE, but it is too late for it
        for (int rule = 0; rule <= 2; rule++) {
            String house = "rooms 3;way 0 1 2;way 0 2 3;bundle 1 1 9 0;bundle 2 1 1 0;fire 1 ";
            CarryFirst late = Checks.in(house + "4;");
            late.tune(0, 9);
            Checks.dueRun("too late", late, rule, 1, 1, 2, 6);
            CarryFirst early = Checks.in(house + "5;");
            early.tune(0, 9);
            Checks.dueRun("in time", early, rule, 1, 10, 3, 11);
            CarryFirst shut = Checks.in("rooms 3;way 0 1 2 door;way 0 2 3;bundle 1 1 9 0;bundle 2 1 1 0;");
            shut.tune(4, 1);
            Checks.dueRun("DOOR SHUT", shut, rule, 1, 1, 2, 6);
        }
    }

    private static void runByTheStair() {
        int[] ends = {12, 8, 6, 6, 5, 5, 5, 5, 4};
        CarryFirst x = Checks.in("rooms 2;way 0 1 2;" + "bundle 1 30 1 0;".repeat(9));
        for (int stair = 1; stair <= 9; stair++) {
            x.tune(3, stair);
            for (int rule = 0; rule <= 2; rule++) Checks.dueRun("STAIR " + stair, x, rule, 9, 9, 511, ends[stair - 1]);
        }
        // three are back in 4, three in 6: out in 4, 4, 5, 6, 6, 7
        CarryFirst y = Checks.in("rooms 3;way 0 1 2;way 0 2 3;" + "bundle 1 30 1 0;".repeat(3) + "bundle 2 30 1 0;".repeat(3));
        y.tune(3, 2);
        Checks.dueRun("two ROOMS", y, 2, 6, 6, 63, 7);
        y.tune(3, 1);
        Checks.dueRun("two ROOMS, one by one", y, 2, 6, 6, 63, 9);
        y.tune(3, 3);
        Checks.dueRun("two ROOMS, three by three", y, 2, 6, 6, 63, 6);
    }

    private static void runFreeAMinuteLater() {
        // out in 4, free in 5, back in 9
        String house = "rooms 2;way 0 1 2;bundle 1 30 1 0;bundle 1 30 1 0;fire 0 ";
        Checks.dueRun("back in the MINUTE of LEAVE", Checks.in(house + "11;"), 2, 1, 1, 1, 4);
        Checks.dueRun("back ahead of it", Checks.in(house + "12;"), 2, 1, 2, 3, 9);
        // from ROOM 0 it takes a MINUTE, too
        String hall = "rooms 1;bundle 0 30 1 0;bundle 0 30 1 0;bundle 0 30 1 0;fire 0 ";
        Checks.dueRun("one in 0", Checks.in(hall + "3;"), 0, 1, 1, 1, 0);
        Checks.dueRun("one in 0, one in 1", Checks.in(hall + "4;"), 0, 1, 2, 3, 1);
    }

    private static void runTheStairMakesLate() {
        // two men, back in 4; the one goes out in 4, the other in 5: he is free in 6, and too late
        String house = "rooms 2;way 0 1 2;" + "bundle 1 30 1 0;".repeat(4) + "fire 0 12;";
        CarryFirst x = Checks.in(house);
        Checks.dueRun("STAIR 2", x, 0, 2, 4, 15, 9);
        x.tune(3, 1);
        Checks.dueRun("STAIR 1", x, 0, 2, 3, 7, 9);
    }

    private static void runNoneIsLeft() {
        for (int rule = 0; rule <= 2; rule++) {
            for (int n = 1; n <= 9; n += 4) {
                Checks.dueRun("a new object", new CarryFirst(), rule, n, 0, 0, 0);
                Checks.dueRun("no BUNDLE", Checks.in("rooms 8;way 0 1 1;man 9;"), rule, n, 0, 0, 0);
                Checks.dueRun("no way", Checks.in("rooms 2;bundle 1 1 1 0;"), rule, n, 0, 0, 0);
                Checks.dueRun("not SAFE", Checks.in("rooms 1;bundle 0 1 1 0;fire 0 0;"), rule, n, 0, 0, 0);
                // out in MINUTE 0: ENDS is 0, too
                Checks.dueRun("at once", Checks.in("rooms 1;bundle 0 1 1 0;fire 0 3;"), rule, n, 1, 1, 0);
            }
        }
    }

    // ---- BEST DOORS

    /** Both answers, and that nothing has changed by them. */
    private static void dueDoors(String name, CarryFirst x, int set, int most) {
        int shut = x.tune(4, 0);
        x.tune(4, shut);
        due(name + ": doors(0)", x.doors(0), set);
        due(name + ": doors(1)", x.doors(1), most);
        due(name + ": what is SHUT", x.tune(4, shut), shut);
    }

    private static void doorsOfSeveralTheLeast() {
        // two DOORS, one behind the other, between a fire and ROOM 1: either will do
        CarryFirst x = Checks.in("rooms 4;way 0 1 3;way 1 2 1 door;way 2 3 1 door;bundle 1 1 8 0;man 1;fire 3 0;");
        x.tune(0, 1);
        for (int shut : new int[] {0, 2, 4, 6}) {
            x.tune(4, shut);
            dueDoors("either", x, 2, 8);
        }
        // without HOLD, none of them helps
        x.tune(1, 0);
        dueDoors("neither", x, 0, 0);
        // no fire: none is needed
        dueDoors("no fire", Checks.in("rooms 2;way 0 1 3 door;bundle 1 1 8 0;man 1;"), 0, 8);
    }

    private static void doorsAllSix() {
        String six = "way 1 2 1 door;".repeat(6);
        String plain = "way 0 1 3;".repeat(6);
        String rest = "bundle 1 1 8 0;man 1;fire 2 0;";
        dueDoors("the last six", Checks.in("rooms 3;" + plain + six + rest), 4032, 8);
        dueDoors("the first six", Checks.in("rooms 3;" + six + plain + rest), 63, 8);
        // five of six, one of them is beside the fire's way
        dueDoors("five", Checks.in("rooms 4;way 3 0 1 door;" + "way 1 2 1 door;".repeat(5) + plain + rest), 62, 8);
        // one of the WAYS has no DOOR
        dueDoors("in vain", Checks.in("rooms 3;way 1 2 1;" + six + "way 0 1 3;" + rest), 0, 0);
    }

    private static void doorsNone() {
        dueDoors("no DOOR", Checks.in("rooms 2;way 0 1 3;bundle 1 1 8 0;man 1;fire 0 99;"), 0, 8);
        dueDoors("no BUNDLE", Checks.in("rooms 2;way 0 1 3 door;man 1;"), 0, 0);
        // a DOOR that he must go through is not SHUT, though a fire is behind it
        CarryFirst x = Checks.in("rooms 3;way 0 1 3 door;way 1 2 1 door;bundle 2 1 9 0;bundle 1 1 4 0;man 1;fire 2 7;");
        x.tune(0, 9);
        dueDoors("both open", x, 0, 13);
    }

    private static void doorsOfManZeroFromTheBeginning() {
        // one FETCHING is in time with the DOOR open, two with it SHUT
        String house = "rooms 3;way 0 1 3;way 0 2 1 door;bundle 1 5 8 0;bundle 1 5 7 0;fire 2 6;man ";
        CarryFirst x = Checks.in(house + "5;man 99;");
        due("MOST with the DOOR open", x.one(0, 0), 8);
        dueDoors("from the beginning", x, 2, 15);
        due("fetch(0, 1)", x.fetch(0, 1), 6);
        dueDoors("from his MINUTE it would be none", x, 2, 15);
        due("fetch(1, 2)", x.fetch(1, 2), 6);
        dueDoors("all was fetched", x, 2, 15);
        due("saved(1)", x.saved(1), 3);
        dueDoors("man 0 is strong", Checks.in(house + "10;man 1;"), 0, 15);
        dueDoors("man 0 is weak", Checks.in(house + "4;man 99;"), 0, 0);
    }
}
