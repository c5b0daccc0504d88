/** Promises 25 to 27 and 29. */
public final class KindsTest {
    /** LEAVE of ROOM 1 is 20, FAR 2; ROOM 2 has no way and is never left. */
    private static final String HOUSE =
        "rooms 3;way 0 1 2;way 0 1 7 door;way 0 1 8 door;bundle 1 5 9 7;bundle 2 6 8 10;bundle 0 1 0 3;man 9;man 9;fire 1 22;";

    public static void main(String[] args) {
        promise25Price();
        promise25AsThingsAre();
        promise26Keep();
        promise27Back();
        promise27NothingElse();
        promise29Trace();
        Checks.end();
    }

    private static void due(String call, long got, long want) {
        Checks.due(call, got, want);
    }

    private static void promise25Price() {
        CarryFirst x = Checks.in(HOUSE);
        long[][] due = {{5, 25, 45, 27, 38, 5}, {6, 6, 48, 6, 38, 6}, {1, 27, 0, 27, -3, 1}};
        for (int b = 0; b < 3; b++) {
            for (int kind = 0; kind < 6; kind++) due("price(" + kind + ", " + b + ")", x.price(kind, b), due[b][kind]);
        }
        int[][] bad = {{-1, 0}, {6, 0}, {0, -1}, {0, 3}, {5, 2147483647}};
        for (int[] a : bad) due("price(" + a[0] + ", " + a[1] + ")", x.price(a[0], a[1]), -1000000);
        due("price(0, 0) without a house", new CarryFirst().price(0, 0), -1000000);
    }

    private static void promise25AsThingsAre() {
        CarryFirst x = Checks.in(HOUSE);
        x.tune(4, 7);
        due("price(5, 0), two DOORS SHUT", x.price(5, 0), 7);
        x.tune(4, 2);
        due("price(5, 1), one DOOR SHUT", x.price(5, 1), 7);
        x.tune(2, 30);
        due("price(1, 0), LEAVE 0", x.price(1, 0), 5);
        x.tune(2, 5);
        due("price(3, 0)", x.price(3, 0), 5 + 17 + 2);
        // fetched or not
        due("fetch(0, 1)", x.fetch(0, 1), 4);
        due("price(2, 0)", x.price(2, 0), 45);
        CarryFirst y = Checks.in("rooms 2;way 0 1 2 door;bundle 1 5 9 7;fire 1 22;");
        y.tune(4, 1);
        due("price(3, 0), no way", y.price(3, 0), 5 + 20);
    }

    private static void promise26Keep() {
        CarryFirst x = Checks.in(HOUSE);
        due("keep(0)", x.keep(0), 0);
        x.fetch(0, 1);
        x.fetch(1, 4);
        due("keep(0)", x.keep(0), 2);
        due("keep(1)", x.keep(1), 2);
        due("keep(2)", x.keep(2), -1);
        due("keep(-1)", x.keep(-1), -1);
        due("saved(1)", x.saved(1), 5);
        due("keep(0) of a new object", new CarryFirst().keep(0), 0);
    }

    private static void promise27Back() {
        CarryFirst x = Checks.in(HOUSE);
        due("back(0)", x.back(0), -2);
        due("back(1)", x.back(1), -2);
        due("back(2)", x.back(2), -1);
        due("back(-1)", x.back(-1), -1);
        x.fetch(0, 1);
        x.tune(4, 2);
        x.keep(1);
        due("back(0)", x.back(0), -2);
        due("fetch(1, 4)", x.fetch(1, 4), 0);
        x.tune(4, 4);
        x.keep(0);
        x.anew();
        x.tune(4, 0);
        due("back(1)", x.back(1), 1);
        dueState(x, 1, 4, 1, 0);
        due("back(0)", x.back(0), 2);
        dueState(x, 5, 4, 0, 1);
        due("back(1)", x.back(1), 1);
        dueState(x, 1, 4, 1, 0);
        // what comes behind leaves the IMAGE alone
        due("fetch(1, 4)", x.fetch(1, 4), 0);
        due("back(1)", x.back(1), 1);
        dueState(x, 1, 4, 1, 0);
        // a DOOR that is SHUT again counts at once
        CarryFirst y = Checks.in("rooms 2;way 0 1 2 door;bundle 1 1 1 1;man 1;");
        y.tune(4, 1);
        y.keep(0);
        y.tune(4, 0);
        due("room(1, 0)", y.room(1, 0), 2);
        y.back(0);
        due("room(1, 0)", y.room(1, 0), -9);
        due("why(0, 1)", y.why(0, 1), 4);
    }

    private static void dueState(CarryFirst x, int set, int minute, int first, int second) {
        due("saved(1)", x.saved(1), set);
        due("man(0, 1)", x.man(0, 1), minute);
        due("man(1, 1)", x.man(1, 1), 0);
        due("way(1, 4)", x.way(1, 4), first);
        due("way(2, 4)", x.way(2, 4), second);
    }

    private static void promise27NothingElse() {
        CarryFirst x = Checks.in(HOUSE);
        x.keep(0);
        x.price(0, 0);
        x.chance(0, 1, 4);
        for (int what = 0; what < 4; what++) x.tune(what, 5);
        Checks.type(x, "abc");
        due("back(0)", x.back(0), 0);
        due("trace()", x.trace(), 1);
        due("chance(1, 1, 0)", x.chance(1, 1, 0), 4);
        due("count(5)", x.count(5), 3);
        for (int what = 0; what < 4; what++) due("tune(" + what + ", 1)", x.tune(what, 1), 5);
    }

    private static void promise29Trace() {
        CarryFirst x = Checks.in(HOUSE);
        due("trace()", x.trace(), 0);
        long[] steps = {1, 11, 101, 1011, 10101, 100001};
        long sum = 0;
        for (int kind = 5; kind >= 0; kind--) {
            x.price(kind, 1);
            sum += steps[kind];
            due("trace() after price(" + kind + ", 1)", x.trace(), sum);
        }
        x.price(6, 0);
        x.price(-1, 0);
        x.price(5, 3);
        x.one(0, 0);
        x.place(0, 1);
        due("trace() after BAD", x.trace(), sum);
        x.anew();
        Checks.read(x, "rooms 1;");
        due("trace() in another house", x.trace(), sum);
        due("trace() of another object", new CarryFirst().trace(), 0);
    }
}
