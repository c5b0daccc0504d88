/** What to carry out first of a house that burns: the promises stand in ../shared/DOC.md. */
public final class CarryFirst {
    public static final int BAD = -1, STATE = -2, FULL = -3, NONE = -9;

    private static final int MAX_TEXT = 400;
    private static final int MAX_ROOMS = 8;
    private static final int MAX_WAYS = 12;
    private static final int MAX_DOORS = 6;
    private static final int MAX_BUNDLES = 10;
    private static final int MAX_MEN = 3;
    private static final int MAX_FIRES = 4;
    private static final int MAX_RUNNERS = 9;
    private static final int MAX_ROW = 40;
    private static final int SETS = 1 << MAX_BUNDLES;
    private static final int LAST_MINUTE = 999;
    private static final int LAST_TRIED = 200;
    private static final int RUN_LOAD = 30;
    private static final int NO_PRICE = -1000000;
    /** Later than any MINUTE that a run of calls can reach. */
    private static final int NEVER = 1000000;

    // columns of the rows in a House
    private static final int FROM = 0, TO = 1, MINUTES = 2, DOOR = 3;
    private static final int ROOM = 0, WEIGHT = 1, WORTH = 2, WET = 3;
    private static final int MINUTE = 1;

    // the tunes
    private static final int SPREAD = 0, HOLD = 1, SMOKE = 2, STAIR = 3, SHUT = 4;
    private static final int[] LEAST_TUNE = {1, 0, 0, 1, 0};
    private static final int[] MOST_TUNE = {9, 90, 30, 9, 4095};

    private static final int NEAR = 0, RICH = 1;

    private final int[] text = new int[MAX_TEXT];
    private int length = 0;
    private final Reader reader = new Reader(text);
    private House house = new House();
    /** A text is read into this one, so that a fault in it leaves the other alone. */
    private House spare = new House();
    private final int[] tunes = {3, 20, 2, 2};
    private final Plan plan = new Plan();
    private final Plan firstImage = new Plan();
    private final Plan secondImage = new Plan();
    private final Bags bags = new Bags();
    private final Atlas now = new Atlas();
    /** The same house with other doors shut, for doors(). */
    private final Atlas trial = new Atlas();
    private final Shares shares = new Shares(bags);
    private final Crew crew = new Crew(bags);
    private final int[] chances = {10, 0, 0, 0, 0};
    private long trace = 0;

    public CarryFirst() {
        bags.fill(house);
        now.draw(house, tunes, 0);
    }

    // ---- the house

    public int type(long v, int n) {
        if (n < 1 || n > 8) return BAD;
        if (length + n > MAX_TEXT) return FULL;
        for (int i = n - 1; i >= 0; i--) {
            text[length] = (int) ((v >>> (8 * i)) & 255);
            length++;
        }
        return length;
    }

    public int clear() {
        int had = length;
        length = 0;
        return had;
    }

    public int house() {
        int items = reader.read(length, spare);
        if (items < 0) return items;
        House old = house;
        house = spare;
        spare = old;
        length = 0;
        plan.begin();
        plan.shut = 0;
        firstImage.kept = false;
        secondImage.kept = false;
        bags.fill(house);
        now.draw(house, tunes, 0);
        return items;
    }

    public int way(int w, int what) {
        if (w < 0 || w >= house.wayCount || what < 0 || what > 4) return BAD;
        return what == 4 ? (plan.shut >> w) & 1 : house.ways[w][what];
    }

    public int bundle(int b, int what) {
        if (!isBundle(b) || what < 0 || what > 4) return BAD;
        return what == 4 ? (plan.fetched >> b) & 1 : house.bundles[b][what];
    }

    public int tune(int what, int v) {
        if (what < 0 || what > SHUT || v < LEAST_TUNE[what] || v > MOST_TUNE[what]) return BAD;
        int was;
        if (what == SHUT) {
            was = plan.shut;
            plan.shut = v & house.doors;
        } else {
            was = tunes[what];
            tunes[what] = v;
        }
        now.draw(house, tunes, plan.shut);
        return was;
    }

    public int room(int r, int what) {
        if (!isRoom(r)) return BAD;
        switch (what) {
            case 0: return now.far[r];
            case 1: return now.ahead[r];
            case 2: return now.burns[r];
            case 3: return now.leave[r];
            default: return BAD;
        }
    }

    private boolean isRoom(int r) {
        return r >= 0 && r < house.rooms;
    }

    private boolean isBundle(int b) {
        return b >= 0 && b < house.bundleCount;
    }

    private boolean isMan(int m) {
        return m >= 0 && m < house.manCount;
    }

    // ---- plans

    public int fetch(int man, int set) {
        int reason = why(man, set);
        if (reason == BAD) return BAD;
        if (reason != 0) return STATE;
        plan.fetched |= set;
        plan.minutes[man] = now.backFrom(bags.roomOf(set), plan.minutes[man]);
        return plan.minutes[man];
    }

    public int why(int man, int set) {
        if (!isLoad(man, set)) return BAD;
        int reason = bar(man, set);
        if (reason != 0) return reason;
        return now.isSafe(bags.roomOf(set), plan.minutes[man]) ? 0 : 5;
    }

    public int man(int m, int what) {
        if (!isMan(m) || what < 0 || what > 1) return BAD;
        return what == 0 ? house.loads[m] : plan.minutes[m];
    }

    public int anew() {
        int had = Integer.bitCount(plan.fetched);
        plan.begin();
        return had;
    }

    public int saved(int what) {
        switch (what) {
            case 0: return bags.worth[plan.fetched];
            case 1: return plan.fetched;
            case 2: return plan.latest();
            default: return BAD;
        }
    }

    /** Whether there is this man and each BUNDLE of the set, one at least. */
    private boolean isLoad(int man, int set) {
        return isMan(man) && set >= 1 && set <= house.allBundles();
    }

    /** Why this man can't fetch the set in any MINUTE, by why()'s numbers; 0: he can. */
    private int bar(int man, int set) {
        if (bags.weight[set] > house.loads[man]) return 1;
        int room = bags.roomOf(set);
        if (room == NONE) return 2;
        if ((plan.fetched & set) != 0) return 3;
        return now.far[room] == NONE ? 4 : 0;
    }

    private int notFetched() {
        return house.allBundles() & ~plan.fetched;
    }

    // ---- most

    public int one(int man, int what) {
        if (!isMan(man) || what < 0 || what > 3) return BAD;
        int from = plan.minutes[man];
        int set = bags.best(now, man, notFetched(), from);
        switch (what) {
            case 0: return bags.worth[set];
            case 1: return set;
            case 2: return bags.first(now, man, set, from);
            default: return bags.finish(now, man, set, from);
        }
    }

    public int all(int m) {
        if (m < -1 || m >= house.manCount) return BAD;
        shares.weigh(now, plan.minutes, house.manCount, notFetched());
        return m == -1 ? shares.most() : shares.setOf(m);
    }

    public int run(int rule, int n, int what) {
        if (rule < 0 || rule > 2 || n < 1 || n > MAX_RUNNERS || what < 0 || what > 2) return BAD;
        crew.go(now, rule, n, tunes[STAIR]);
        switch (what) {
            case 0: return bags.worth[crew.taken];
            case 1: return crew.taken;
            default: return crew.ends();
        }
    }

    public int doors(int what) {
        if (what < 0 || what > 1) return BAD;
        if (house.manCount == 0) return STATE;
        int most = -1;
        int best = 0;
        int shut = 0;
        int choices = 1 << Integer.bitCount(house.doors);
        for (int i = 0; i < choices; i++) {
            trial.draw(house, tunes, shut);
            int worth = bags.worth[bags.best(trial, 0, house.allBundles(), 0)];
            if (worth > most) {
                most = worth;
                best = shut;
            }
            // counts upwards through the bits of the DOORS alone
            shut = (shut - house.doors) & house.doors;
        }
        return what == 0 ? best : most;
    }

    // ---- how sure, what is left

    public int chance(int j, int k, int v) {
        if (j < 0 || j > 4 || k < 0 || k > 4) return BAD;
        if (v < 0 || v > chances[j]) return BAD;
        chances[j] -= v;
        chances[k] += v;
        return chances[k];
    }

    public int sure(int man, int set, int t) {
        if (!isLoad(man, set) || !isMinute(t)) return BAD;
        return sureness(man, set, t);
    }

    public int last(int man, int set, int k) {
        if (!isLoad(man, set) || k < 1 || k > 10) return BAD;
        for (int t = LAST_TRIED; t >= 0; t--) {
            if (sureness(man, set, t) >= k) return t;
        }
        return NONE;
    }

    public int lost(int t, int what) {
        if (!isMinute(t) || what < 0 || what > 1) return BAD;
        int sum = 0;
        for (int b = 0; b < house.bundleCount; b++) {
            if (((plan.fetched >> b) & 1) != 0) continue;
            int[] row = house.bundles[b];
            int fire = now.burns[row[ROOM]];
            boolean burnt = fire != NONE && fire <= t;
            if (burnt && what == 0) sum += row[WORTH];
            if (!burnt && what == 1) sum += row[WORTH] * row[WET] / 10;
        }
        return sum;
    }

    public int loads(int r, int n, int t, int what) {
        if (!isRoom(r) || n < 1 || n > MAX_ROW || !isMinute(t) || what < 0 || what > 1) return BAD;
        if (now.far[r] == NONE) return STATE;
        return what == 0 ? byChain(now.far[r], n, t) : byRunners(now.far[r], n, t);
    }

    public int edge(int r, int t) {
        if (!isRoom(r) || !isMinute(t)) return BAD;
        int far = now.far[r];
        if (far == NONE) return STATE;
        for (int n = 1; n <= MAX_ROW; n++) {
            if (byChain(far, n, t) > byRunners(far, n, t)) return n;
        }
        return NONE;
    }

    public int place(int b, int slots) {
        if (!isBundle(b) || slots < 1 || slots > 9) return BAD;
        int before = 0;
        for (int i = 0; i < house.bundleCount && bags.order[i] != b; i++) before++;
        int wanted = before / slots;
        for (int r = 0; r < house.rooms; r++) {
            if (roomsBetterThan(r) == wanted) return r;
        }
        return NONE;
    }

    private static boolean isMinute(int t) {
        return t >= 0 && t <= LAST_MINUTE;
    }

    private int sureness(int man, int set, int t) {
        if (bar(man, set) != 0) return 0;
        int room = bags.roomOf(set);
        int sum = 0;
        for (int k = 0; k < 5; k++) {
            // a fire that is k sooner leaves as much time as a man who begins k later
            if (now.isSafe(room, t + k)) sum += chances[k];
        }
        return sum;
    }

    private static int byChain(int far, int n, int t) {
        return n / (far + 1) * Math.max(0, t - far);
    }

    private static int byRunners(int far, int n, int t) {
        return n * (t / Math.max(1, 2 * far));
    }

    private int roomsBetterThan(int r) {
        int better = 0;
        for (int other = 0; other < house.rooms; other++) {
            if (other != r && isBetterPlace(other, r)) better++;
        }
        return better;
    }

    private boolean isBetterPlace(int a, int b) {
        int leaveA = orNever(now.leave[a]);
        int leaveB = orNever(now.leave[b]);
        if (leaveA != leaveB) return leaveA > leaveB;
        int farA = orNever(now.far[a]);
        int farB = orNever(now.far[b]);
        return farA != farB ? farA < farB : a < b;
    }

    private static int orNever(int minute) {
        return minute == NONE ? NEVER : minute;
    }

    private static int orZero(int minute) {
        return minute == NONE ? 0 : minute;
    }

    // ---- kinds, images

    public int price(int kind, int b) {
        if (!isBundle(b)) return NO_PRICE;
        switch (kind) {
            case 0: return planPrice(b);
            case 1: return nearPrice(b);
            case 2: return worthPrice(b);
            case 3: return chainPrice(b);
            case 4: return bestPrice(b);
            case 5: return shutPrice(b);
            default: return NO_PRICE;
        }
    }

    public int keep(int image) {
        if (image < 0 || image > 1) return BAD;
        Plan kept = image == 0 ? firstImage : secondImage;
        kept.copy(plan);
        kept.kept = true;
        return Integer.bitCount(plan.fetched);
    }

    public int back(int image) {
        if (image < 0 || image > 1) return BAD;
        Plan kept = image == 0 ? firstImage : secondImage;
        if (!kept.kept) return STATE;
        plan.copy(kept);
        now.draw(house, tunes, plan.shut);
        return Integer.bitCount(plan.fetched);
    }

    public int count(int what) {
        switch (what) {
            case 0: return house.rooms;
            case 1: return house.wayCount;
            case 2: return house.bundleCount;
            case 3: return house.manCount;
            case 4: return house.fireCount;
            case 5: return length;
            default: return BAD;
        }
    }

    public long trace() {
        return trace;
    }

    private int planPrice(int b) {
        trace += 1;
        return house.bundles[b][WEIGHT];
    }

    private int nearPrice(int b) {
        trace += 10;
        return planPrice(b) + orZero(now.leave[house.bundles[b][ROOM]]);
    }

    private int worthPrice(int b) {
        trace += 100;
        return planPrice(b) * house.bundles[b][WORTH];
    }

    private int chainPrice(int b) {
        trace += 1000;
        return nearPrice(b) + orZero(now.far[house.bundles[b][ROOM]]);
    }

    private int bestPrice(int b) {
        trace += 10000;
        return worthPrice(b) - house.bundles[b][WET];
    }

    private int shutPrice(int b) {
        trace += 100000;
        return planPrice(b) + Integer.bitCount(plan.shut);
    }

    // ---- classes inside

    /** What a text tells. */
    private static final class House {
        final int[][] ways = new int[MAX_WAYS][4];
        final int[][] bundles = new int[MAX_BUNDLES][4];
        final int[] loads = new int[MAX_MEN];
        final int[][] fires = new int[MAX_FIRES][2];
        int rooms = 1;
        int wayCount = 0;
        int bundleCount = 0;
        int manCount = 0;
        int fireCount = 0;
        /** The WAYS that have a DOOR, as bits. */
        int doors = 0;

        void empty() {
            rooms = 1;
            wayCount = 0;
            bundleCount = 0;
            manCount = 0;
            fireCount = 0;
            doors = 0;
        }

        int allBundles() {
            return (1 << bundleCount) - 1;
        }
    }

    /** Reads a text, TOKEN by TOKEN, into a House; the first FAULT ends it. */
    private static final class Reader {
        private static final int END = 0, STOP = 1, NUMBER = 2, NO_TOKEN = 3;
        private static final int ROOMS_WORD = 4, WAY_WORD = 5, DOOR_WORD = 6;
        private static final int BUNDLE_WORD = 7, MAN_WORD = 8, FIRE_WORD = 9;
        private static final int NO_FAULT = -1;

        private final int[] text;
        private int length = 0;
        /** The first byte that no TOKEN has taken yet. */
        private int at = 0;
        private int start = 0;
        private int token = END;
        private int value = 0;
        private int fault = NO_FAULT;

        Reader(int[] text) {
            this.text = text;
        }

        /** How many ITEMS, or -10 less the FAULT. */
        int read(int count, House house) {
            length = Math.min(count, text.length);
            at = 0;
            fault = NO_FAULT;
            house.empty();
            int items = 0;
            next();
            // an ITEM takes bytes, so there are fewer of them than bytes
            for (int i = 0; i <= length && token != END && fault == NO_FAULT; i++) {
                if ((token == ROOMS_WORD) != (items == 0)) refuse();
                switch (token) {
                    case ROOMS_WORD: readRooms(house); break;
                    case WAY_WORD: readWay(house); break;
                    case BUNDLE_WORD: readBundle(house); break;
                    case MAN_WORD: readMan(house); break;
                    case FIRE_WORD: readFire(house); break;
                    default: refuse();
                }
                if (token != STOP) refuse();
                items++;
                next();
            }
            return fault == NO_FAULT ? items : -10 - fault;
        }

        private void readRooms(House house) {
            house.rooms = number(1, MAX_ROOMS);
            next();
        }

        private void readWay(House house) {
            int w = house.wayCount;
            if (w >= MAX_WAYS) {
                refuse();
                return;
            }
            int[] row = house.ways[w];
            row[FROM] = number(0, house.rooms - 1);
            row[TO] = number(0, house.rooms - 1);
            if (row[TO] == row[FROM]) refuse();
            row[MINUTES] = number(1, 30);
            row[DOOR] = 0;
            next();
            if (token == DOOR_WORD) {
                if (Integer.bitCount(house.doors) >= MAX_DOORS) refuse();
                house.doors |= 1 << w;
                row[DOOR] = 1;
                next();
            }
            house.wayCount++;
        }

        private void readBundle(House house) {
            if (house.bundleCount >= MAX_BUNDLES) {
                refuse();
                return;
            }
            int[] row = house.bundles[house.bundleCount];
            row[ROOM] = number(0, house.rooms - 1);
            row[WEIGHT] = number(1, 99);
            row[WORTH] = number(0, 99);
            row[WET] = number(0, 10);
            next();
            house.bundleCount++;
        }

        private void readMan(House house) {
            if (house.manCount >= MAX_MEN) {
                refuse();
                return;
            }
            house.loads[house.manCount] = number(1, 99);
            next();
            house.manCount++;
        }

        private void readFire(House house) {
            if (house.fireCount >= MAX_FIRES) {
                refuse();
                return;
            }
            int[] row = house.fires[house.fireCount];
            row[ROOM] = number(0, house.rooms - 1);
            row[MINUTE] = number(0, 99);
            next();
            house.fireCount++;
        }

        private int number(int least, int most) {
            next();
            if (token == NUMBER && value >= least && value <= most) return value;
            refuse();
            return least;
        }

        /** The TOKEN that stands here can't; what was refused first stays. */
        private void refuse() {
            if (fault == NO_FAULT) fault = start;
        }

        private void next() {
            while (at < length && text[at] == ' ') at++;
            start = at;
            if (at >= length) {
                token = END;
                return;
            }
            int c = text[at];
            if (isLetter(c)) {
                while (at < length && isLetter(text[at])) at++;
                token = wordToken();
            } else if (isDigit(c)) {
                while (at < length && isDigit(text[at])) at++;
                token = numberToken();
            } else {
                at++;
                token = c == ';' ? STOP : NO_TOKEN;
            }
        }

        private static boolean isLetter(int c) {
            return c >= 'a' && c <= 'z';
        }

        private static boolean isDigit(int c) {
            return c >= '0' && c <= '9';
        }

        private int wordToken() {
            if (spells("rooms")) return ROOMS_WORD;
            if (spells("way")) return WAY_WORD;
            if (spells("door")) return DOOR_WORD;
            if (spells("bundle")) return BUNDLE_WORD;
            if (spells("man")) return MAN_WORD;
            if (spells("fire")) return FIRE_WORD;
            return NO_TOKEN;
        }

        private boolean spells(String word) {
            if (at - start != word.length()) return false;
            for (int i = 0; i < word.length(); i++) {
                if (text[start + i] != word.charAt(i)) return false;
            }
            return true;
        }

        private int numberToken() {
            int digits = at - start;
            if (digits > 2 || (digits == 2 && text[start] == '0')) return NO_TOKEN;
            value = 0;
            for (int i = start; i < at; i++) value = 10 * value + text[i] - '0';
            return NUMBER;
        }
    }

    /** What THE PLAN is at, and what an IMAGE keeps of it. */
    private static final class Plan {
        final int[] minutes = new int[MAX_MEN];
        int fetched = 0;
        int shut = 0;
        boolean kept = false;

        void begin() {
            for (int m = 0; m < MAX_MEN; m++) minutes[m] = 0;
            fetched = 0;
        }

        void copy(Plan other) {
            for (int m = 0; m < MAX_MEN; m++) minutes[m] = other.minutes[m];
            fetched = other.fetched;
            shut = other.shut;
        }

        int latest() {
            int latest = 0;
            for (int m = 0; m < MAX_MEN; m++) latest = Math.max(latest, minutes[m]);
            return latest;
        }
    }

    /** How far the ROOMS are and when they are left, with some DOORS SHUT. */
    private static final class Atlas {
        int rooms = 1;
        final int[] far = new int[MAX_ROOMS];
        final int[] ahead = new int[MAX_ROOMS];
        final int[] burns = new int[MAX_ROOMS];
        final int[] leave = new int[MAX_ROOMS];
        /** The last MINUTE in which one who fetches from a ROOM may be back. */
        final int[] due = new int[MAX_ROOMS];
        /** The ROOMS, those that are due first ahead. */
        final int[] order = new int[MAX_ROOMS];

        void draw(House house, int[] tunes, int shut) {
            rooms = house.rooms;
            drawFar(house, shut);
            drawAhead(house, shut);
            drawBurns(house, tunes, shut);
            drawLeave(tunes[SMOKE]);
            drawDue();
            drawOrder();
        }

        private void drawFar(House house, int shut) {
            for (int r = 0; r < rooms; r++) far[r] = NONE;
            far[0] = 0;
            for (int round = 0; round < rooms; round++) {
                for (int w = 0; w < house.wayCount; w++) {
                    if (((shut >> w) & 1) == 0) spread(far, house.ways[w], house.ways[w][MINUTES]);
                }
            }
        }

        private void drawBurns(House house, int[] tunes, int shut) {
            for (int r = 0; r < rooms; r++) burns[r] = NONE;
            for (int f = 0; f < house.fireCount; f++) {
                int[] fire = house.fires[f];
                lower(burns, fire[ROOM], fire[MINUTE]);
            }
            for (int round = 0; round < rooms; round++) {
                for (int w = 0; w < house.wayCount; w++) {
                    int hold = ((shut >> w) & 1) * tunes[HOLD];
                    spread(burns, house.ways[w], tunes[SPREAD] * house.ways[w][MINUTES] + hold);
                }
            }
        }

        private static void spread(int[] row, int[] way, int cost) {
            int a = way[FROM];
            int b = way[TO];
            if (row[a] != NONE) lower(row, b, row[a] + cost);
            if (row[b] != NONE) lower(row, a, row[b] + cost);
        }

        private static void lower(int[] row, int r, int value) {
            if (row[r] == NONE || value < row[r]) row[r] = value;
        }

        private void drawAhead(House house, int shut) {
            for (int r = 0; r < rooms; r++) ahead[r] = NONE;
            for (int w = 0; w < house.wayCount; w++) {
                if (((shut >> w) & 1) != 0) continue;
                int[] way = house.ways[w];
                leadTo(way[FROM], way[TO], way[MINUTES]);
                leadTo(way[TO], way[FROM], way[MINUTES]);
            }
        }

        private void leadTo(int a, int b, int minutes) {
            if (far[a] != NONE && far[a] + minutes == far[b]) lower(ahead, b, a);
        }

        private void drawLeave(int smoke) {
            for (int r = 0; r < rooms; r++) {
                leave[r] = burns[r] == NONE ? NONE : Math.max(0, burns[r] - smoke);
            }
        }

        private void drawDue() {
            for (int r = 0; r < rooms; r++) {
                due[r] = NEVER;
                int x = r;
                // a PATH has no ROOM twice
                for (int step = 0; step < rooms && x != NONE; step++) {
                    // last in x when he has yet far[x] to go, ahead of its LEAVE
                    if (leave[x] != NONE) due[r] = Math.min(due[r], leave[x] - 1 + far[x]);
                    x = ahead[x];
                }
            }
        }

        private void drawOrder() {
            for (int r = 0; r < rooms; r++) {
                int place = r;
                for (int i = r; i > 0 && due[order[i - 1]] > due[r]; i--) {
                    order[i] = order[i - 1];
                    place = i - 1;
                }
                order[place] = r;
            }
        }

        /** When one who begins in a MINUTE is back from a ROOM to which there is a way. */
        int backFrom(int r, int minute) {
            return minute + 2 * far[r];
        }

        boolean isSafe(int r, int minute) {
            return far[r] != NONE && backFrom(r, minute) <= due[r];
        }
    }

    /** All sets of BUNDLES, and how the men can bring them out. */
    private static final class Bags {
        private static final int TOO_HEAVY = 100;

        private int bundleCount = 0;
        final int[] weight = new int[SETS];
        final int[] worth = new int[SETS];
        /** The ROOM of each BUNDLE, and the set in each ROOM. */
        private final int[] room = new int[MAX_BUNDLES];
        final int[] inRoom = new int[MAX_ROOMS];
        /** The BUNDLES by WORTH, the most first. */
        final int[] order = new int[MAX_BUNDLES];
        private final int[] loads = new int[MAX_MEN];
        /** How many times each man must go for a set of one ROOM. */
        private final int[][] trips = new int[MAX_MEN][SETS];

        void fill(House house) {
            bundleCount = house.bundleCount;
            for (int r = 0; r < MAX_ROOMS; r++) inRoom[r] = 0;
            for (int b = 0; b < bundleCount; b++) {
                room[b] = house.bundles[b][ROOM];
                inRoom[room[b]] |= 1 << b;
            }
            int sets = 1 << bundleCount;
            for (int set = 1; set < sets; set++) {
                int[] row = house.bundles[lowest(set)];
                int others = set & (set - 1);
                weight[set] = weight[others] + row[WEIGHT];
                worth[set] = worth[others] + row[WORTH];
            }
            for (int m = 0; m < house.manCount; m++) {
                loads[m] = house.loads[m];
                fillTrips(trips[m], loads[m]);
            }
            fillOrder();
        }

        private void fillTrips(int[] row, int load) {
            int sets = 1 << bundleCount;
            for (int set = 1; set < sets; set++) {
                if (roomOf(set) == NONE) continue;
                int low = set & -set;
                int fewest = TOO_HEAVY;
                // the load with the lowest BUNDLE in it may as well be the first
                for (int part = set; part > 0; part = (part - 1) & set) {
                    boolean fits = (part & low) != 0 && weight[part] <= load;
                    if (fits) fewest = Math.min(fewest, 1 + row[set ^ part]);
                }
                row[set] = Math.min(fewest, TOO_HEAVY);
            }
        }

        private void fillOrder() {
            for (int b = 0; b < bundleCount; b++) {
                int place = b;
                for (int i = b; i > 0 && worth[1 << order[i - 1]] < worth[1 << b]; i--) {
                    order[i] = order[i - 1];
                    place = i - 1;
                }
                order[place] = b;
            }
        }

        private static int lowest(int set) {
            return Math.min(Integer.bitCount((set & -set) - 1), MAX_BUNDLES - 1);
        }

        /** The one ROOM that all of a set is in; NONE. */
        int roomOf(int set) {
            int r = room[lowest(set)];
            return (set & ~inRoom[r]) == 0 ? r : NONE;
        }

        /**
         * When a man who begins in a MINUTE is back with all of a set, as soon as can be; NONE: never.
         * He goes for the ROOMS in the order in which he must be back from them: where that
         * is too late for one of them, so is every other order.
         */
        int finish(Atlas atlas, int man, int set, int from) {
            int minute = from;
            for (int i = 0; i < atlas.rooms; i++) {
                int r = atlas.order[i];
                int part = set & inRoom[r];
                if (part == 0) continue;
                int times = trips[man][part];
                if (atlas.far[r] == NONE || times >= TOO_HEAVY) return NONE;
                minute += times * 2 * atlas.far[r];
                if (minute > atlas.due[r]) return NONE;
            }
            return minute;
        }

        /** Of a set what a man saves at MOST; of several sets the least. */
        int best(Atlas atlas, int man, int of, int from) {
            int best = 0;
            for (int set = 1; set <= of; set++) {
                if ((set & ~of) != 0 || worth[set] <= worth[best]) continue;
                if (finish(atlas, man, set, from) != NONE) best = set;
            }
            return best;
        }

        /** The least load with which he can begin and be back with all of a set as soon as can be. */
        int first(Atlas atlas, int man, int set, int from) {
            int soonest = finish(atlas, man, set, from);
            for (int part = 1; part <= set; part++) {
                if ((part & ~set) != 0 || weight[part] > loads[man]) continue;
                int r = roomOf(part);
                if (r == NONE || !atlas.isSafe(r, from)) continue;
                if (finish(atlas, man, set ^ part, atlas.backFrom(r, from)) == soonest) return part;
            }
            return 0;
        }
    }

    /**
     * What ALL men save together. Who can bring a set out can bring each part of it out: what is saved of a
     * set is all of it, or what is saved of it less one BUNDLE.
     */
    private static final class Shares {
        private final Bags bags;
        private int men = 0;
        private int whole = 0;
        /** Of each set: the men who can bring it out alone, as bits. */
        private final int[] able = new int[SETS];
        /** Of each set: the most WORTH that man m and those behind him bring out of it. */
        private final int[][] gains = new int[MAX_MEN][SETS];

        Shares(Bags bags) {
            this.bags = bags;
        }

        void weigh(Atlas atlas, int[] minutes, int manCount, int set) {
            men = manCount;
            whole = set;
            for (int part = 0; part <= whole; part++) {
                if ((part & ~whole) != 0) continue;
                able[part] = 0;
                for (int m = 0; m < men; m++) {
                    if (bags.finish(atlas, m, part, minutes[m]) != NONE) able[part] |= 1 << m;
                }
            }
            for (int m = men - 1; m >= 0; m--) {
                for (int part = 0; part <= whole; part++) {
                    if ((part & ~whole) == 0) gains[m][part] = gain(m, part);
                }
            }
        }

        int most() {
            return gainOf(0, whole);
        }

        int setOf(int man) {
            int left = whole;
            int set = 0;
            for (int m = 0; m <= man; m++) {
                left ^= set;
                set = choose(m, left);
            }
            return set;
        }

        private int gain(int m, int of) {
            int best = 0;
            boolean maybeAll = true;
            for (int b = 0; b < MAX_BUNDLES; b++) {
                int bit = 1 << b;
                if ((of & bit) == 0) continue;
                int less = gains[m][of ^ bit];
                best = Math.max(best, less);
                if (less < bags.worth[of ^ bit]) maybeAll = false;
            }
            return maybeAll && savesAll(m, of) ? bags.worth[of] : best;
        }

        private boolean savesAll(int m, int of) {
            for (int i = 0, part = of; i <= of; i++, part = (part - 1) & of) {
                if (gainWith(m, part, of) == bags.worth[of]) return true;
            }
            return false;
        }

        /** The least set for man m by which he and those behind him bring the most out of a set. */
        private int choose(int m, int of) {
            for (int part = 0; part < of; part++) {
                if ((part & ~of) == 0 && gainWith(m, part, of) == gainOf(m, of)) return part;
            }
            return of;
        }

        /** What man m and those behind him bring out of a set, if he brings this part; NONE: he can't. */
        private int gainWith(int m, int part, int of) {
            if (((able[part] >> m) & 1) == 0) return NONE;
            return bags.worth[part] + gainOf(m + 1, of ^ part);
        }

        private int gainOf(int m, int of) {
            return m < men ? gains[m][of] : 0;
        }
    }

    /** A RUN. */
    private static final class Crew {
        private static final int STAYS_OUT = -1;

        private final Bags bags;
        private final int[] free = new int[MAX_RUNNERS];
        /** The MINUTES in which one went out. */
        private final int[] outs = new int[MAX_BUNDLES];
        private int outCount = 0;
        int taken = 0;

        Crew(Bags bags) {
            this.bags = bags;
        }

        void go(Atlas atlas, int rule, int men, int stair) {
            taken = 0;
            outCount = 0;
            for (int m = 0; m < MAX_RUNNERS; m++) free[m] = 0;
            int light = lightOnes();
            // each turn takes a BUNDLE or leaves a man out for good
            for (int turn = 0; turn < MAX_BUNDLES + MAX_RUNNERS; turn++) {
                int m = firstFree(men);
                if (m == NONE) return;
                int r = goal(atlas, rule, light & ~taken, free[m]);
                if (r == NONE || outCount >= MAX_BUNDLES) {
                    free[m] = STAYS_OUT;
                    continue;
                }
                takeFrom(r);
                int out = outFrom(atlas.backFrom(r, free[m]), stair);
                outs[outCount] = out;
                outCount++;
                free[m] = out + 1;
            }
        }

        int ends() {
            int latest = 0;
            for (int i = 0; i < outCount; i++) latest = Math.max(latest, outs[i]);
            return latest;
        }

        private int lightOnes() {
            int set = 0;
            for (int b = 0; b < bags.bundleCount; b++) {
                if (bags.weight[1 << b] <= RUN_LOAD) set |= 1 << b;
            }
            return set;
        }

        private int firstFree(int men) {
            int first = NONE;
            for (int m = 0; m < men; m++) {
                if (free[m] == STAYS_OUT) continue;
                if (first == NONE || free[m] < free[first]) first = m;
            }
            return first;
        }

        /** The ROOM that the RULE tells of those with something to take that are SAFE; NONE. */
        private int goal(Atlas atlas, int rule, int left, int minute) {
            int goal = NONE;
            int least = 0;
            for (int r = 0; r < atlas.rooms; r++) {
                int here = left & bags.inRoom[r];
                if (here == 0 || !atlas.isSafe(r, minute)) continue;
                int rank = rank(atlas, rule, here, r);
                if (goal == NONE || rank < least) {
                    goal = r;
                    least = rank;
                }
            }
            return goal;
        }

        private int rank(Atlas atlas, int rule, int here, int r) {
            if (rule == NEAR) return orNever(atlas.leave[r]);
            if (rule == RICH) return -richest(here);
            return atlas.far[r];
        }

        private int richest(int set) {
            int most = 0;
            for (int b = 0; b < bags.bundleCount; b++) {
                if (((set >> b) & 1) != 0) most = Math.max(most, bags.worth[1 << b]);
            }
            return most;
        }

        private void takeFrom(int r) {
            int load = 0;
            for (int i = 0; i < bags.bundleCount; i++) {
                int bit = 1 << bags.order[i];
                boolean here = (bit & bags.inRoom[r] & ~taken) != 0;
                if (here && load + bags.weight[bit] <= RUN_LOAD) {
                    taken |= bit;
                    load += bags.weight[bit];
                }
            }
        }

        /** The first MINUTE from one on in which fewer than STAIR men have gone out. */
        private int outFrom(int minute, int stair) {
            for (int i = 0; i <= outCount; i++) {
                if (outsIn(minute + i) < stair) return minute + i;
            }
            return minute + outCount;
        }

        private int outsIn(int minute) {
            int sum = 0;
            for (int i = 0; i < outCount; i++) {
                if (outs[i] == minute) sum++;
            }
            return sum;
        }
    }
}
