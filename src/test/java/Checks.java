import java.nio.charset.StandardCharsets;

/** What the project's own tests share: calls that are due an answer, and texts that are typed. */
final class Checks {
    private static int wrong = 0;

    private Checks() {}

    static void due(String call, long got, long want) {
        if (got == want) return;
        wrong++;
        System.out.println(call + " answered " + got + ", due is " + want);
    }

    /** The last line of each main method. */
    static void end() {
        if (wrong != 0) System.exit(1);
    }

    /** Types a text, eight bytes a call. */
    static void type(CarryFirst x, String text) {
        byte[] bytes = text.getBytes(StandardCharsets.ISO_8859_1);
        int had = x.count(5);
        for (int i = 0; i < bytes.length; i += 8) {
            int n = Math.min(8, bytes.length - i);
            long v = 0;
            for (int k = 0; k < n; k++) v = v << 8 | bytes[i + k] & 255;
            due("type() of " + text, x.type(v, n), had + i + n);
        }
    }

    /** A new object with a HOUSE. */
    static CarryFirst in(String text) {
        CarryFirst x = new CarryFirst();
        read(x, text);
        return x;
    }

    static void read(CarryFirst x, String text) {
        type(x, text);
        long items = text.chars().filter(c -> c == ';').count();
        due("house() of " + text, x.house(), items);
    }

    /** A text that is right, of a new object. */
    static void dueItems(String text, int items) {
        CarryFirst x = new CarryFirst();
        type(x, text);
        due("house() of " + text, x.house(), items);
        due("count(5) after " + text, x.count(5), 0);
    }

    /** MOST, the set, the FIRST FETCHING, the MINUTE. */
    static void dueOne(String name, CarryFirst x, int man, int... want) {
        for (int what = 0; what < 4; what++) due(name + ": one(" + man + ", " + what + ")", x.one(man, what), want[what]);
    }

    /** MOST, the set of each man. */
    static void dueAll(String name, CarryFirst x, int... want) {
        for (int m = -1; m < want.length - 1; m++) due(name + ": all(" + m + ")", x.all(m), want[m + 1]);
        due(name + ": all() of one more", x.all(want.length - 1), -1);
    }

    /** SAVED, the set, ENDS. */
    static void dueRun(String name, CarryFirst x, int rule, int n, int... want) {
        for (int what = 0; what < 3; what++) {
            due(name + ": run(" + rule + ", " + n + ", " + what + ")", x.run(rule, n, what), want[what]);
        }
    }
}
