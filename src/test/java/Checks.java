import java.nio.charset.StandardCharsets;

/** What the project's own tests share: calls that are due an answer, and texts that are typed. */
final class Checks {
    private static int wrong = 0;

    private Checks() {}

    static void due(String call, long got, long want) {
        if (got == want) return;
        wrong++;
        System.out.println(call + " answered " + got + ", due is " + want);
    }

    /** The last line of each main method. */
    static void end() {
        if (wrong != 0) System.exit(1);
    }

    /** Types a text, eight bytes a call. */
    static void type(CarryFirst x, String text) {
        byte[] bytes = text.getBytes(StandardCharsets.ISO_8859_1);
        int had = x.count(5);
        for (int i = 0; i < bytes.length; i += 8) {
            int n = Math.min(8, bytes.length - i);
            long v = 0;
            for (int k = 0; k < n; k++) v = v << 8 | bytes[i + k] & 255;
            due("type() of " + text, x.type(v, n), had + i + n);
        }
    }

    /** A new object with a HOUSE. */
    static CarryFirst in(String text) {
        CarryFirst x = new CarryFirst();
        read(x, text);
        return x;
    }

    static void read(CarryFirst x, String text) {
        type(x, text);
        long items = text.chars().filter(c -> c == ';').count();
        due("house() of " + text, x.house(), items);
    }
}
