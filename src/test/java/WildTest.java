/** No call throws, whatever numbers it is given and whatever was called before; wrong numbers change nothing. */
public final class WildTest {
    private static final int[] NUMBERS = {
        -2147483648, -2147483647, -1024, -33, -9, -2, -1, 0, 1, 2, 3, 5, 7, 8, 9, 10, 11, 12, 31, 40, 41, 63, 200, 999, 1000,
        1023, 1024, 4095, 4096, 65536, 2147483646, 2147483647};
    private static final String[] HOUSES = {
        "",
        "rooms 1;bundle 0 1 1 1;",
        "rooms 8;man 99;fire 7 0;" + "bundle 7 99 99 10;".repeat(10),
        "rooms 8;way 0 1 30 door;way 1 2 30 door;way 2 3 30 door;way 3 4 30 door;way 4 5 30 door;way 5 6 30 door;way 6 7 30;"
            + "way 7 0 1;way 0 2 1;way 0 3 1;way 0 4 1;way 0 5 1;" + "bundle 6 1 9 9;".repeat(10) + "man 1;man 2;man 99;fire 0 99;",
    };

    private static long seed = 1;

    public static void main(String[] args) {
        for (String house : HOUSES) {
            wrongNumbers(Checks.in(house));
            anyNumbers(Checks.in(house));
        }
        anyBytes();
        Checks.end();
    }

    private static int upTo(int n) {
        seed = seed * 6364136223846793005L + 1442695040888963407L;
        return (int) ((seed >>> 33) % n);
    }

    private static int any() {
        return NUMBERS[upTo(NUMBERS.length)];
    }

    /** Numbers that no call takes, in each place. */
    private static void wrongNumbers(CarryFirst x) {
        for (int n : new int[] {-2147483648, -1000, -2, 5000, 2147483647}) {
            long[] got = {
                x.type(1, n), x.way(n, 0), x.way(0, n), x.bundle(n, 0), x.bundle(0, n), x.tune(n, 1), x.tune(0, n), x.tune(4, n),
                x.room(n, 0), x.room(0, n), x.fetch(n, 1), x.fetch(0, n), x.why(n, 1), x.why(0, n), x.man(n, 0), x.man(0, n),
                x.saved(n), x.one(n, 0), x.one(0, n), x.all(n), x.run(n, 1, 0), x.run(0, n, 0), x.run(0, 1, n), x.doors(n),
                x.chance(n, 0, 0), x.chance(0, n, 0), x.chance(0, 0, n), x.sure(n, 1, 0), x.sure(0, n, 0), x.sure(0, 1, n),
                x.last(n, 1, 1), x.last(0, n, 1), x.last(0, 1, n), x.lost(n, 0), x.lost(0, n), x.loads(n, 1, 1, 0),
                x.loads(0, n, 1, 0), x.loads(0, 1, n, 0), x.loads(0, 1, 1, n), x.edge(n, 0), x.edge(0, n), x.place(n, 1),
                x.place(0, n), x.keep(n), x.back(n), x.count(n)};
            for (int i = 0; i < got.length; i++) Checks.due("call " + i + " with " + n, got[i], -1);
            Checks.due("price(" + n + ", 0)", x.price(n, 0), -1000000);
            Checks.due("price(0, " + n + ")", x.price(0, n), -1000000);
        }
        Checks.due("trace()", x.trace(), 0);
        Checks.due("saved(1)", x.saved(1), 0);
        Checks.due("back(0)", x.back(0), -2);
        Checks.due("count(5)", x.count(5), 0);
        Checks.due("tune(0, 3)", x.tune(0, 3), 3);
        Checks.due("tune(4, 0)", x.tune(4, 0), 0);
        Checks.due("chance(0, 0, 0)", x.chance(0, 0, 0), 10);
    }

    private static void anyNumbers(CarryFirst x) {
        for (int i = 0; i < 20000; i++) {
            int a = any();
            int b = any();
            int c = any();
            switch (upTo(26)) {
                case 0: x.way(a, b); break;
                case 1: x.bundle(a, b); break;
                case 2: x.tune(a, b); break;
                case 3: x.room(a, b); break;
                case 4: x.fetch(a, b); break;
                case 5: x.why(a, b); break;
                case 6: x.man(a, b); break;
                case 7: x.anew(); break;
                case 8: x.saved(a); break;
                case 9: x.one(a, b); break;
                case 10: x.all(a); break;
                case 11: x.run(a, b, c); break;
                case 12: x.doors(a); break;
                case 13: x.chance(a, b, c); break;
                case 14: x.sure(a, b, c); break;
                case 15: x.last(a, b, c); break;
                case 16: x.lost(a, b); break;
                case 17: x.loads(a, b, c, any()); break;
                case 18: x.edge(a, b); break;
                case 19: x.place(a, b); break;
                case 20: x.price(a, b); break;
                case 21: x.keep(a); break;
                case 22: x.back(a); break;
                case 23: x.count(a); break;
                case 24: x.type((long) a * b, c); break;
                default: if (upTo(50) == 0) x.clear(); else x.trace();
            }
        }
    }

    /** Texts of all kinds of bytes, of TOKENS in a wrong order, too. */
    private static void anyBytes() {
        String[] tokens = {"rooms", "way", "door", "bundle", "man", "fire", ";", ";", ";", "0", "1", "2", "7", "30", "99", "100",
            "00", " ", "x", "\u00ff", "\u0000"};
        CarryFirst x = new CarryFirst();
        for (int i = 0; i < 5000; i++) {
            if (x.count(5) == 0) x.type(0x726f6f6d73203b3bL + ((long) (0x30 + upTo(9)) << 8) - 0x3b00L, 8);
            for (int k = upTo(40); k >= 0; k--) {
                String token = " " + tokens[upTo(tokens.length)];
                for (int at = 0; at < token.length(); at++) x.type(token.charAt(at), 1);
            }
            int had = x.count(5);
            int items = x.house();
            boolean right = items >= 0 ? x.count(5) == 0 : -10 - items >= 0 && -10 - items <= had && x.count(5) == had;
            Checks.due("house() answered " + items + " of " + had + " bytes", right ? 0 : 1, 0);
            x.clear();
        }
    }
}
