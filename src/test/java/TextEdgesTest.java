/** What "Terms" says of the text of THE HOUSE, a test for each sentence: its limits, its TOKENS, its FAULTS. */
public final class TextEdgesTest {
    private static final String ROOMS = "rooms 3;";
    /** One of each ITEM, and a WAY with a DOOR. */
    private static final String FULL_TEXT =
        " rooms 3 ;  way 0 1 30 door ; way 1 2 1 ; bundle 2 99 99 10 ; man 99 ; fire 0 99 ; ";

    public static void main(String[] args) {
        theLowestBytesTheHighestFirst();
        fourHundredBytesAtMost();
        roomsEightAtMost();
        waysTwelveAtMost();
        doorsSixAtMost();
        bundlesTenAtMost();
        menThreeAtMost();
        firesFourAtMost();
        itemsNone();
        itemsInAnyOrder();
        blanksAsMayBe();
        blanksNoneNeeded();
        roomsTheFirstOfAll();
        roomsToldAgain();
        eachNumberWithinItsBounds();
        twoRoomsOfAWay();
        numbersAbove99();
        zerosAheadOfOthers();
        wordsThatAreNone();
        bytesThatBeginNone();
        tokensThatCannotStandThere();
        doorBehindMinutesAlone();
        endsTooEarly();
        endsWithinAWord();
        theFirstFault();
        aFaultLeavesTheTextAndTheHouse();
        Checks.end();
    }

    private static void due(String call, long got, long want) {
        Checks.due(call, got, want);
    }

    private static void dueFault(String text, int place) {
        CarryFirst x = new CarryFirst();
        Checks.type(x, text);
        due("house() of " + text, x.house(), -10 - place);
        due("count(5) after " + text, x.count(5), text.length());
    }

    /** A text up to the end of which nothing is wrong, and a TOKEN behind it that can't stand there. */
    private static void dueFaultBehind(String right, String token) {
        dueFault(right + token, right.length());
        dueFault(right + token + " 1;", right.length());
    }

    // ---- how it is typed, how much may be told

    private static void theLowestBytesTheHighestFirst() {
        for (int n = 1; n <= 8; n++) {
            // what stands above the lowest n bytes is none of the text's
            for (long above : new long[] {0, -1, 0x3b3b3b3b3b3b3b3bL}) {
                CarryFirst x = new CarryFirst();
                String text = FULL_TEXT + " ".repeat(8 - FULL_TEXT.length() % 8);
                int typed = 0;
                while (typed < text.length()) {
                    int many = Math.min(n, text.length() - typed);
                    long v = above;
                    for (int i = 0; i < many; i++) v = v << 8 | text.charAt(typed + i);
                    typed += many;
                    due("type(" + v + ", " + many + ")", x.type(v, many), typed);
                }
                due("house() typed by " + n, x.house(), 6);
                due("bundle(0, 3)", x.bundle(0, 3), 10);
            }
        }
        // bytes of 128 and above are such, whatever the sign of v
        CarryFirst y = new CarryFirst();
        due("type(-1, 8)", y.type(-1, 8), 8);
        due("type(Long.MIN_VALUE, 8)", y.type(Long.MIN_VALUE, 8), 16);
        due("house()", y.house(), -10);
        due("clear()", y.clear(), 16);
        due("type(.. 32, 1)", y.type(Long.MIN_VALUE | ' ', 1), 1);
        due("house() of a blank", y.house(), 0);
    }

    private static void fourHundredBytesAtMost() {
        CarryFirst x = new CarryFirst();
        Checks.type(x, "rooms 3;" + " ".repeat(384) + "man 77;");
        due("type() of the last byte", x.type(' ', 1), 400);
        due("type() of one more", x.type('x', 1), -3);
        due("type() of eight more", x.type(-1, 8), -3);
        due("house() of 400 bytes", x.house(), 2);
        due("man(0, 0)", x.man(0, 0), 77);
        // with 399 there is room for one, and for no two
        Checks.type(x, "rooms 4;" + " ".repeat(391));
        for (int n = 2; n <= 8; n++) due("type(.., " + n + ") behind 399", x.type(0x3b3b3b3b3b3b3b3bL, n), -3);
        due("count(5)", x.count(5), 399);
        due("house() of 399 bytes", x.house(), 1);
        due("count(0)", x.count(0), 4);
        Checks.type(x, " ".repeat(400));
        due("clear() of 400", x.clear(), 400);
        due("type() then", x.type(' ', 1), 1);
    }

    private static void roomsEightAtMost() {
        for (int n = 1; n <= 8; n++) {
            CarryFirst x = Checks.in("rooms " + n + ";");
            due("count(0)", x.count(0), n);
            due("room(n - 1, 0)", x.room(n - 1, 0), n == 1 ? 0 : -9);
            due("room(n, 0)", x.room(n, 0), -1);
        }
        dueFault("rooms 0;", 6);
        dueFault("rooms 9;", 6);
    }

    private static void waysTwelveAtMost() {
        StringBuilder twelve = new StringBuilder(ROOMS);
        for (int w = 0; w < 12; w++) twelve.append("way ").append(w % 3).append(' ').append((w + 1) % 3).append(' ').append(w + 9).append(';');
        CarryFirst x = Checks.in(twelve.toString());
        due("count(1)", x.count(1), 12);
        for (int w = 0; w < 12; w++) {
            due("way(" + w + ", 0)", x.way(w, 0), w % 3);
            due("way(" + w + ", 1)", x.way(w, 1), (w + 1) % 3);
            due("way(" + w + ", 2)", x.way(w, 2), w + 9);
            due("way(" + w + ", 3)", x.way(w, 3), 0);
        }
        due("way(12, 0)", x.way(12, 0), -1);
        dueFaultBehind(twelve.toString(), "way");
        dueFaultBehind(twelve + "man 1;  ", "way");
    }

    private static void doorsSixAtMost() {
        String six = ROOMS + "way 0 1 1 door;".repeat(3) + "way 0 1 1;" + "way 0 1 1 door;".repeat(3);
        CarryFirst x = Checks.in(six + "way 0 1 1;");
        due("tune(4, 4095)", x.tune(4, 4095), 0);
        due("tune(4, 0)", x.tune(4, 0), 119);
        dueFaultBehind(six + "way 1 2 30 ", "door");
        // of twelve WAYS the last six
        String late = ROOMS + "way 0 1 1;".repeat(6) + "way 0 1 1 door;".repeat(6);
        CarryFirst y = Checks.in(late);
        due("tune(4, 4095)", y.tune(4, 4095), 0);
        due("tune(4, 0)", y.tune(4, 0), 4032);
    }

    private static void bundlesTenAtMost() {
        StringBuilder ten = new StringBuilder(ROOMS);
        for (int b = 0; b < 10; b++) ten.append("bundle ").append(b % 3).append(' ').append(b + 1).append(" 7 ").append(b).append(';');
        CarryFirst x = Checks.in(ten.toString());
        due("count(2)", x.count(2), 10);
        for (int b = 0; b < 10; b++) {
            due("bundle(" + b + ", 0)", x.bundle(b, 0), b % 3);
            due("bundle(" + b + ", 1)", x.bundle(b, 1), b + 1);
            due("bundle(" + b + ", 3)", x.bundle(b, 3), b);
        }
        due("bundle(10, 0)", x.bundle(10, 0), -1);
        dueFaultBehind(ten.toString(), "bundle");
    }

    private static void menThreeAtMost() {
        String three = ROOMS + "man 1;man 50;man 99;";
        CarryFirst x = Checks.in(three);
        due("count(3)", x.count(3), 3);
        long[] loads = {1, 50, 99, -1};
        for (int m = 0; m < 4; m++) due("man(" + m + ", 0)", x.man(m, 0), loads[m]);
        dueFaultBehind(three, "man");
    }

    private static void firesFourAtMost() {
        String four = ROOMS + "fire 0 9;fire 0 8;fire 1 7;fire 2 6;";
        CarryFirst x = Checks.in(four);
        due("count(4)", x.count(4), 4);
        long[] burns = {8, 7, 6};
        for (int r = 0; r < 3; r++) due("room(" + r + ", 2)", x.room(r, 2), burns[r]);
        dueFaultBehind(four, "fire");
    }

    // ---- what stands in a text

    private static void itemsNone() {
        Checks.dueItems("", 0);
        Checks.dueItems(" ", 0);
        Checks.dueItems(" ".repeat(400), 0);
        CarryFirst x = Checks.in(FULL_TEXT);
        due("house() of nothing", x.house(), 0);
        for (int what = 0; what < 6; what++) due("count(" + what + ")", x.count(what), what == 0 ? 1 : 0);
        due("room(0, 2)", x.room(0, 2), -9);
        // rooms alone
        Checks.dueItems("rooms 1;", 1);
    }

    private static void itemsInAnyOrder() {
        CarryFirst x = Checks.in("rooms 2;fire 1 5;man 7;bundle 1 2 3 4;way 0 1 6 door;man 8;way 1 0 9;bundle 0 1 1 1;fire 0 50;");
        long[] counts = {2, 2, 2, 2, 2, 0};
        for (int what = 0; what < 6; what++) due("count(" + what + ")", x.count(what), counts[what]);
        due("man(1, 0)", x.man(1, 0), 8);
        due("way(1, 2)", x.way(1, 2), 9);
        due("way(1, 0)", x.way(1, 0), 1);
        due("room(1, 0)", x.room(1, 0), 6);
    }

    private static void blanksAsMayBe() {
        Checks.dueItems("     rooms     3     ;     man     7     ;     ", 2);
        Checks.dueItems("rooms 3;" + " ".repeat(385) + "man 8;", 2);
        Checks.dueItems(FULL_TEXT, 6);
        // one within a TOKEN makes two of it
        dueFault("ro oms 3;", 0);
        dueFault("rooms 3;man 7 7;", 14);
        dueFault("rooms 3;wa y 0 1 1;", 8);
    }

    private static void blanksNoneNeeded() {
        Checks.dueItems("rooms3;way0 1 30door;way1 2 1;bundle2 99 99 10;man99;fire0 99;", 6);
        // but between two NUMBERS, and between two words
        dueFault("rooms3;fire0;", 12);
        dueFault("rooms3;way01 1;", 10);
        dueFault("rooms3;way12 5;", 10);
        dueFault("roomsrooms 3;", 0);
    }

    private static void roomsTheFirstOfAll() {
        String[] others = {"way 0 1 1;", "door;", "bundle 0 1 1 1;", "man 5;", "fire 0 1;", ";", "1;"};
        for (String other : others) {
            dueFault(other, 0);
            dueFault("  " + other + "rooms 2;", 2);
        }
    }

    private static void roomsToldAgain() {
        dueFaultBehind("rooms 3;", "rooms");
        dueFaultBehind("rooms 3;man 1;fire 0 0;  ", "rooms");
    }

    // ---- NUMBERS

    private static void eachNumberWithinItsBounds() {
        bounds("rooms ", ";", 1, 8);
        bounds(ROOMS + "way 0 1 ", ";", 1, 30);
        bounds(ROOMS + "way 0 1 ", " door;", 1, 30);
        bounds(ROOMS + "bundle ", " 1 1 1;", 0, 2);
        bounds(ROOMS + "bundle 0 ", " 1 1;", 1, 99);
        bounds(ROOMS + "bundle 0 1 ", " 1;", 0, 99);
        bounds(ROOMS + "bundle 0 1 1 ", ";", 0, 10);
        bounds(ROOMS + "man ", ";", 1, 99);
        bounds(ROOMS + "fire ", " 1;", 0, 2);
        bounds(ROOMS + "fire 0 ", ";", 0, 99);
        // a ROOM is one of those that there are
        bounds("rooms 8;fire ", " 1;", 0, 7);
        bounds("rooms 1;bundle ", " 1 1 1;", 0, 0);
    }

    private static void bounds(String ahead, String behind, int least, int most) {
        int items = (int) (ahead + behind).chars().filter(c -> c == ';').count();
        for (int n = 0; n <= 101; n++) {
            String text = ahead + n + behind;
            if (n >= least && n <= most) Checks.dueItems(text, items);
            else dueFault(text, ahead.length());
        }
    }

    private static void twoRoomsOfAWay() {
        for (int a = 0; a <= 4; a++) {
            for (int b = 0; b <= 4; b++) {
                String text = ROOMS + "way " + a + " " + b + " 1;";
                if (a > 2) dueFault(text, 12);
                else if (b > 2 || b == a) dueFault(text, 14);
                else Checks.dueItems(text, 2);
            }
        }
    }

    private static void numbersAbove99() {
        // some that would be small again if they went round
        String[] numbers = {"100", "101", "999", "1000", "256", "257", "65537", "4294967296", "4294967297", "18446744073709551617",
            "9".repeat(300)};
        for (String n : numbers) {
            dueFault("rooms " + n + ";", 6);
            dueFault(ROOMS + "man " + n + ";", 12);
            dueFault(ROOMS + "fire 1 " + n + ";", 15);
            dueFault(n, 0);
        }
    }

    private static void zerosAheadOfOthers() {
        for (String n : new String[] {"00", "01", "02", "09", "000", "001", "010", "0000000000000000000001"}) {
            dueFault("rooms " + n + ";", 6);
            dueFault(ROOMS + "fire " + n + " 1;", 13);
            dueFault(ROOMS + "bundle 0 1 1 " + n + ";", 21);
        }
        Checks.dueItems(ROOMS + "fire 0 0;bundle 0 10 0 0;", 3);
    }

    // ---- words and other bytes

    private static void wordsThatAreNone() {
        String[] words = {"rooms", "way", "door", "bundle", "man", "fire"};
        for (String word : words) {
            for (int n = 1; n < word.length(); n++) wordThatIsNone(word.substring(0, n));
            wordThatIsNone(word + "s");
            wordThatIsNone("a" + word);
            wordThatIsNone(word + word);
            wordThatIsNone(word.substring(0, word.length() - 1) + "x");
            wordThatIsNone("z" + word.substring(1));
            wordThatIsNone(word.substring(0, 1) + "q" + word.substring(2));
        }
        dueFault(ROOMS + "WAY 0 1 1;", 8);
        dueFault(ROOMS + "wAy 0 1 1;", 8);
    }

    private static void wordThatIsNone(String word) {
        dueFault(word + " 2;", 0);
        dueFault(ROOMS + "  " + word + " 0 1 1;", 10);
        dueFault(ROOMS + "way 0 1 1 " + word + ";", 18);
    }

    private static void bytesThatBeginNone() {
        for (int c = 0; c < 256; c++) {
            String sign = String.valueOf((char) c);
            boolean inToken = c >= 'a' && c <= 'z' || c >= '0' && c <= '9';
            if (c == ' ') {
                Checks.dueItems(ROOMS + sign, 1);
                Checks.dueItems("rooms" + sign + "3;", 1);
                Checks.dueItems("rooms 3" + sign + ";", 1);
                continue;
            }
            dueFault(sign, 0);
            dueFault(ROOMS + sign, 8);
            dueFault(ROOMS + sign + ";", 8);
            if (inToken) continue;
            dueFault("rooms" + sign + "3;", 5);
            if (c == ';') continue;
            dueFault("rooms 3" + sign + ";", 7);
            dueFault(ROOMS + "man 7;" + sign, 14);
        }
    }

    private static void tokensThatCannotStandThere() {
        String[] words = {"rooms", "way", "door", "bundle", "man", "fire", ";"};
        String[] beginnings = {"rooms ", ROOMS + "way ", ROOMS + "way 0 ", ROOMS + "way 0 1 ", ROOMS + "bundle ", ROOMS + "bundle 0 ",
            ROOMS + "bundle 0 1 ", ROOMS + "bundle 0 1 1 ", ROOMS + "man ", ROOMS + "fire ", ROOMS + "fire 0 "};
        // where a NUMBER is due, all others
        for (String ahead : beginnings) for (String word : words) dueFault(ahead + word + " 1;", ahead.length());
        // where ; is due, all others
        String[] ends = {"rooms 3 ", ROOMS + "way 0 1 1 door ", ROOMS + "bundle 0 1 1 1 ", ROOMS + "man 1 ", ROOMS + "fire 0 1 "};
        for (String ahead : ends) {
            for (String word : words) if (!word.equals(";")) dueFault(ahead + word + ";", ahead.length());
            dueFault(ahead + "1;", ahead.length());
            Checks.dueItems(ahead + ";", ahead.contains(";") ? 2 : 1);
        }
        // where an ITEM is due
        dueFaultBehind(ROOMS, ";");
        dueFaultBehind(ROOMS, "door");
        dueFaultBehind(ROOMS, "0");
    }

    private static void doorBehindMinutesAlone() {
        dueFault(ROOMS + "way door 0 1 1;", 12);
        dueFault(ROOMS + "way 0 door 1 1;", 14);
        dueFault(ROOMS + "way 0 1 door 1;", 16);
        dueFault(ROOMS + "way 0 1 1 door door;", 23);
        dueFault(ROOMS + "way 0 1 1; door;", 19);
        dueFault(ROOMS + "way 0 1 1 door 1;", 23);
        dueFault(ROOMS + "way 0 1 1 1;", 18);
    }

    // ---- where a text ends

    private static void endsTooEarly() {
        // behind each TOKEN that ends no ITEM, blanks or none
        String text = FULL_TEXT.strip();
        for (int n = 1; n < text.length(); n++) {
            boolean behindToken = text.charAt(n) == ' ' && text.charAt(n - 1) != ' ';
            if (!behindToken) continue;
            String part = text.substring(0, n);
            int items = (int) part.chars().filter(c -> c == ';').count();
            for (String blanks : new String[] {"", " ", "     "}) {
                if (part.endsWith(";")) Checks.dueItems(part + blanks, items);
                else dueFault(part + blanks, n + blanks.length());
            }
        }
        String full = ROOMS + " ".repeat(387) + "man 1";
        dueFault(full, 400);
    }

    private static void endsWithinAWord() {
        dueFault("room", 0);
        dueFault(ROOMS + " wa", 9);
        dueFault(ROOMS + "way 0 1 1 doo", 18);
        dueFault(ROOMS + "way 0 1 1 d", 18);
        dueFault(ROOMS + "bundl", 8);
    }

    private static void theFirstFault() {
        dueFault("rooms 3;way 0 0 31 doors", 14);
        dueFault("rooms 3;way 3 3 0;", 12);
        dueFault("rooms 9;rooms 9;", 6);
        dueFault("man 0;", 0);
        dueFault("rooms 3;rooms 9;", 8);
        dueFault("rooms 3;man 1;;;#", 14);
        dueFault("rooms 3;bundle 3 0 100 11", 15);
        dueFault("rooms 3;fire 0 100", 15);
        dueFault("rooms 3;" + "man 1;".repeat(3) + "man 0", 26);
        dueFault("rooms 3;" + "way 0 1 1;".repeat(12) + "way 0 0 0 door", 128);
        dueFault("rooms 3;" + "way 0 1 1 door;".repeat(6) + "way 0 1 1 door way", 108);
        dueFault("rooms 3;" + "way 0 1 1 door;".repeat(6) + "way 0 1 0 door;", 106);
    }

    private static void aFaultLeavesTheTextAndTheHouse() {
        CarryFirst x = Checks.in(FULL_TEXT);
        String wrong = "rooms 8;" + "way 7 6 5 door;".repeat(6) + "bundle 7 1 1 1;man 3;man 3;fire 7 7;fire 7 7;!";
        Checks.type(x, wrong);
        for (int i = 0; i < 2; i++) {
            due("house()", x.house(), -10 - (wrong.length() - 1));
            long[] counts = {3, 2, 1, 1, 1, wrong.length()};
            for (int what = 0; what < 6; what++) due("count(" + what + ")", x.count(what), counts[what]);
            long[] way = {0, 1, 30, 1, 0};
            for (int what = 0; what < 5; what++) due("way(0, " + what + ")", x.way(0, what), way[what]);
            long[] bundle = {2, 99, 99, 10, 0};
            for (int what = 0; what < 5; what++) due("bundle(0, " + what + ")", x.bundle(0, what), bundle[what]);
            due("man(0, 0)", x.man(0, 0), 99);
            due("room(0, 2)", x.room(0, 2), 99);
            due("room(2, 0)", x.room(2, 0), 31);
            due("one(0, 0)", x.one(0, 0), 99);
            due("tune(4, 4095)", x.tune(4, 4095), 0);
            due("tune(4, 0)", x.tune(4, 0), 1);
        }
        due("clear()", x.clear(), wrong.length());
    }
}
