import java.util.ArrayList;
import java.util.List;
import java.util.TreeMap;
import java.util.regex.Matcher;
import java.util.regex.Pattern;

/**
 * The document once more, by other and slower ways: every PATH is walked, every row of FETCHINGS tried, a RUN
 * goes MINUTE by MINUTE. ModelTest holds CarryFirst against it.
 */
final class Model {
    private static final int BAD = -1, STATE = -2, FULL = -3, NONE = -9;

    StringBuilder text = new StringBuilder();
    int rooms = 1;
    List<int[]> ways = new ArrayList<>();
    List<int[]> bundles = new ArrayList<>();
    List<Integer> men = new ArrayList<>();
    List<int[]> fires = new ArrayList<>();
    int[] tunes = {3, 20, 2, 2, 0};
    int[] chances = {10, 0, 0, 0, 0};
    int[] minutes = new int[3];
    int fetched = 0;
    int[][] images = new int[2][];
    long trace = 0;

    /** What the walks told since the house, a tune or an image last changed: they are many. */
    private int[][] paths = new int[8][];
    private boolean[] pathKnown = new boolean[8];
    private int[] burns = new int[8];
    private boolean[] burnsKnown = new boolean[8];

    private void forgetWalks() {
        pathKnown = new boolean[8];
        burnsKnown = new boolean[8];
    }

    int type(long v, int n) {
        if (n < 1 || n > 8) return BAD;
        if (text.length() + n > 400) return FULL;
        for (int i = 1; i <= n; i++) text.append((char) (v >> 8 * (n - i) & 0xff));
        return text.length();
    }

    int clear() {
        int n = text.length();
        text.setLength(0);
        return n;
    }

    // ---- the text

    private static final Pattern TOKEN = Pattern.compile(" *([a-z]+|[0-9]+|[^a-z0-9 ]|$)", Pattern.DOTALL);

    private static final class Fault extends RuntimeException {
        private static final long serialVersionUID = 1;
        final int place;

        Fault(int place) {
            this.place = place;
        }
    }

    int house() {
        List<String> words = new ArrayList<>();
        List<Integer> places = new ArrayList<>();
        Matcher m = TOKEN.matcher(text);
        while (m.find()) {
            words.add(m.group(1));
            places.add(m.start(1));
            if (m.group(1).isEmpty()) break;
        }
        Model fresh = new Model();
        try {
            int items = fresh.items(words, places);
            rooms = fresh.rooms;
            ways = fresh.ways;
            bundles = fresh.bundles;
            men = fresh.men;
            fires = fresh.fires;
            minutes = new int[3];
            fetched = 0;
            images = new int[2][];
            tunes[4] = 0;
            forgetWalks();
            text.setLength(0);
            return items;
        } catch (Fault f) {
            return -10 - f.place;
        }
    }

    private int items(List<String> words, List<Integer> places) {
        int items = 0;
        int i = 0;
        while (!words.get(i).isEmpty()) {
            String word = words.get(i);
            boolean rightWord = items == 0 ? word.equals("rooms") : word.matches("way|bundle|man|fire");
            need(rightWord, places.get(i));
            need(!(word.equals("way") && ways.size() == 12), places.get(i));
            need(!(word.equals("bundle") && bundles.size() == 10), places.get(i));
            need(!(word.equals("man") && men.size() == 3), places.get(i));
            need(!(word.equals("fire") && fires.size() == 4), places.get(i));
            i++;
            int[][] bounds = switch (word) {
                case "rooms" -> new int[][] {{1, 8}};
                case "way" -> new int[][] {{0, rooms - 1}, {0, rooms - 1}, {1, 30}};
                case "bundle" -> new int[][] {{0, rooms - 1}, {1, 99}, {0, 99}, {0, 10}};
                case "man" -> new int[][] {{1, 99}};
                default -> new int[][] {{0, rooms - 1}, {0, 99}};
            };
            int[] n = new int[4];
            for (int k = 0; k < bounds.length; k++, i++) {
                need(words.get(i).matches("0|[1-9][0-9]?"), places.get(i));
                n[k] = Integer.parseInt(words.get(i));
                need(n[k] >= bounds[k][0] && n[k] <= bounds[k][1], places.get(i));
                need(!(word.equals("way") && k == 1 && n[1] == n[0]), places.get(i));
            }
            if (word.equals("way") && words.get(i).equals("door")) {
                need(ways.stream().filter(w -> w[3] == 1).count() < 6, places.get(i));
                n[3] = 1;
                i++;
            }
            need(words.get(i).equals(";"), places.get(i));
            i++;
            items++;
            switch (word) {
                case "rooms" -> rooms = n[0];
                case "way" -> ways.add(n);
                case "bundle" -> bundles.add(n);
                case "man" -> men.add(n[0]);
                default -> fires.add(n);
            }
        }
        return items;
    }

    private static void need(boolean holds, int place) {
        if (!holds) throw new Fault(place);
    }

    // ---- the house

    boolean isShut(int w) {
        return (tunes[4] >> w & 1) == 1;
    }

    int way(int w, int what) {
        if (w < 0 || w >= ways.size() || what < 0 || what > 4) return BAD;
        if (what == 4) return isShut(w) ? 1 : 0;
        return ways.get(w)[what];
    }

    int bundle(int b, int what) {
        if (b < 0 || b >= bundles.size() || what < 0 || what > 4) return BAD;
        if (what == 4) return fetched >> b & 1;
        return bundles.get(b)[what];
    }

    int tune(int what, int v) {
        int[][] bounds = {{1, 9}, {0, 90}, {0, 30}, {1, 9}, {0, 4095}};
        if (what < 0 || what > 4 || v < bounds[what][0] || v > bounds[what][1]) return BAD;
        forgetWalks();
        int was = tunes[what];
        tunes[what] = v;
        if (what == 4) {
            for (int w = 0; w < 12; w++) {
                if (w >= ways.size() || ways.get(w)[3] == 0) tunes[4] &= ~(1 << w);
            }
        }
        return was;
    }

    /** All rows of ROOMS, none twice, from the first one of the row on; with what each costs ahead. */
    private List<int[]> walks(int from, boolean open) {
        List<int[]> found = new ArrayList<>();
        walk(new int[] {0, from}, open, found);
        return found;
    }

    private void walk(int[] row, boolean open, List<int[]> found) {
        found.add(row);
        int last = row[row.length - 1];
        for (int w = 0; w < ways.size(); w++) {
            int[] way = ways.get(w);
            if (open && isShut(w)) continue;
            int to = way[0] == last ? way[1] : way[1] == last ? way[0] : NONE;
            boolean been = to == NONE;
            for (int i = 1; i < row.length; i++) been |= row[i] == to;
            if (been) continue;
            int[] longer = java.util.Arrays.copyOf(row, row.length + 1);
            longer[row.length] = to;
            longer[0] += open ? way[2] : tunes[0] * way[2] + (isShut(w) ? tunes[1] : 0);
            walk(longer, open, found);
        }
    }

    /** FAR, then the PATH from ROOM 0 on; null: none. */
    int[] path(int r) {
        if (!pathKnown[r]) paths[r] = walkedPath(r);
        pathKnown[r] = true;
        return paths[r];
    }

    private int[] walkedPath(int r) {
        int[] best = null;
        for (int[] row : walks(0, true)) {
            if (row[row.length - 1] != r) continue;
            if (best == null || row[0] < best[0] || (row[0] == best[0] && isBefore(row, best))) best = row;
        }
        return best;
    }

    private static boolean isBefore(int[] a, int[] b) {
        for (int i = 1; i < a.length && i < b.length; i++) {
            int x = a[a.length - i];
            int y = b[b.length - i];
            if (x != y) return x < y;
        }
        return false;
    }

    int burns(int r) {
        if (!burnsKnown[r]) burns[r] = walkedBurns(r);
        burnsKnown[r] = true;
        return burns[r];
    }

    private int walkedBurns(int r) {
        int best = NONE;
        for (int[] fire : fires) {
            for (int[] row : walks(fire[0], false)) {
                if (row[row.length - 1] == r && (best == NONE || fire[1] + row[0] < best)) best = fire[1] + row[0];
            }
        }
        return best;
    }

    int leave(int r, int sooner) {
        int b = burns(r);
        return b == NONE ? NONE : Math.max(0, b - sooner - tunes[2]);
    }

    int far(int r) {
        int[] p = path(r);
        return p == null ? NONE : p[0];
    }

    int room(int r, int what) {
        if (r < 0 || r >= rooms || what < 0 || what > 3) return BAD;
        if (what == 0) return far(r);
        if (what == 2) return burns(r);
        if (what == 3) return leave(r, 0);
        int[] p = path(r);
        return p == null || p.length == 2 ? NONE : p[p.length - 2];
    }

    /** Whether a FETCHING from a ROOM to which there is a way is SAFE. */
    boolean safe(int r, int t, int sooner) {
        int[] p = path(r);
        for (int i = 1; i < p.length; i++) {
            int l = leave(p[i], sooner);
            if (l != NONE && t + 2 * p[0] - far(p[i]) >= l) return false;
        }
        return true;
    }

    // ---- plans

    private boolean isSet(int man, int set) {
        return man >= 0 && man < men.size() && set > 0 && set >> bundles.size() == 0;
    }

    private int sum(int set, int column) {
        int sum = 0;
        for (int b = 0; b < bundles.size(); b++) if ((set >> b & 1) == 1) sum += bundles.get(b)[column];
        return sum;
    }

    private int roomOf(int set) {
        int r = NONE;
        for (int b = 0; b < bundles.size(); b++) {
            if ((set >> b & 1) == 0) continue;
            if (r != NONE && r != bundles.get(b)[0]) return NONE;
            r = bundles.get(b)[0];
        }
        return r;
    }

    int why(int man, int set) {
        if (!isSet(man, set)) return BAD;
        if (sum(set, 1) > men.get(man)) return 1;
        if (roomOf(set) == NONE) return 2;
        if ((set & fetched) != 0) return 3;
        if (path(roomOf(set)) == null) return 4;
        return safe(roomOf(set), minutes[man], 0) ? 0 : 5;
    }

    int fetch(int man, int set) {
        int w = why(man, set);
        if (w != 0) return w == BAD ? BAD : STATE;
        fetched |= set;
        return minutes[man] += 2 * far(roomOf(set));
    }

    int man(int m, int what) {
        if (m < 0 || m >= men.size() || what < 0 || what > 1) return BAD;
        return what == 0 ? men.get(m) : minutes[m];
    }

    int anew() {
        int n = Integer.bitCount(fetched);
        fetched = 0;
        minutes = new int[3];
        return n;
    }

    int saved(int what) {
        if (what < 0 || what > 2) return BAD;
        if (what == 1) return fetched;
        return what == 0 ? sum(fetched, 2) : Math.max(minutes[0], Math.max(minutes[1], minutes[2]));
    }

    // ---- most

    /** Of each set that a man can save: the fewest MINUTES, and by them the least first FETCHING. */
    private TreeMap<Integer, int[]> rows(int man, int gone, int from) {
        int n = 1 << bundles.size();
        int[] roomOf = new int[n];
        int[] limit = new int[rooms];
        int[] far = new int[rooms];
        for (int set = 1; set < n; set++) roomOf[set] = sum(set, 1) > men.get(man) ? NONE : roomOf(set);
        for (int r = 0; r < rooms; r++) {
            far[r] = far(r);
            limit[r] = -1;
            if (far[r] == NONE) continue;
            while (limit[r] < 5000 && safe(r, limit[r] + 1, 0)) limit[r] += safe(r, 5000, 0) ? 5001 : 1;
        }
        TreeMap<Integer, int[]> best = new TreeMap<>();
        best.put(0, new int[] {from, 0});
        // a set's parts are less than it, so each set is whole before it is gone on from
        for (int set = 0; set < n; set++) {
            int[] at = best.get(set);
            if (at == null) continue;
            for (int part = 1; part < n; part++) {
                if ((part & (set | gone)) != 0 || roomOf[part] == NONE) continue;
                int r = roomOf[part];
                if (far[r] == NONE || at[0] > limit[r]) continue;
                int[] next = {at[0] + 2 * far[r], set == 0 ? part : at[1]};
                int[] old = best.get(set | part);
                boolean better = old == null || next[0] < old[0] || (next[0] == old[0] && next[1] < old[1]);
                if (better) best.put(set | part, next);
            }
        }
        return best;
    }

    int one(int man, int what) {
        if (man < 0 || man >= men.size() || what < 0 || what > 3) return BAD;
        TreeMap<Integer, int[]> rows = rows(man, fetched, minutes[man]);
        int best = 0;
        for (int set : rows.keySet()) if (sum(set, 2) > sum(best, 2)) best = set;
        int[] row = rows.get(best);
        return what == 0 ? sum(best, 2) : what == 1 ? best : what == 2 ? row[1] : row[0];
    }

    int all(int m) {
        if (m < -1 || m >= men.size()) return BAD;
        List<List<Integer>> can = new ArrayList<>();
        for (int i = 0; i < 3; i++) {
            if (i < men.size()) can.add(new ArrayList<>(rows(i, fetched, minutes[i]).keySet()));
            else can.add(List.of(0));
        }
        int[] worth = new int[1 << bundles.size()];
        for (int set = 0; set < worth.length; set++) worth[set] = sum(set, 2);
        int most = -1;
        int[] sets = new int[3];
        for (int a : can.get(0)) {
            for (int b : can.get(1)) {
                if ((a & b) != 0) continue;
                for (int c : can.get(2)) {
                    if (((a | b) & c) != 0 || worth[a | b | c] <= most) continue;
                    most = worth[a | b | c];
                    sets = new int[] {a, b, c};
                }
            }
        }
        return m == -1 ? most : sets[m];
    }

    int run(int rule, int n, int what) {
        if (rule < 0 || rule > 2 || n < 1 || n > 9 || what < 0 || what > 2) return BAD;
        int[] far = new int[rooms];
        int[] leave = new int[rooms];
        for (int r = 0; r < rooms; r++) {
            far[r] = far(r);
            leave[r] = leave(r, 0) == NONE ? 1 << 20 : leave(r, 0);
        }
        int taken = 0;
        int ends = 0;
        int[] back = new int[n];
        int[] free = new int[n];
        java.util.Arrays.fill(back, -1);
        for (int t = 0; t < 6000; t++) {
            int out = 0;
            boolean busy = true;
            while (busy) {
                busy = false;
                for (int m = 0; m < n; m++) {
                    if (back[m] != -1 || free[m] > t) continue;
                    int r = goal(rule, taken, t, far, leave);
                    if (r == NONE) continue;
                    taken |= grab(r, taken);
                    back[m] = t + 2 * far[r];
                }
                int first = -1;
                for (int m = 0; m < n; m++) {
                    if (back[m] == -1 || back[m] > t) continue;
                    if (first == -1 || back[m] < back[first]) first = m;
                }
                if (first != -1 && out < tunes[3]) {
                    out++;
                    ends = t;
                    back[first] = -1;
                    free[first] = t + 1;
                    busy = true;
                }
            }
        }
        return what == 0 ? sum(taken, 2) : what == 1 ? taken : ends;
    }

    private int goal(int rule, int taken, int t, int[] far, int[] leave) {
        int goal = NONE;
        int best = 0;
        for (int r = 0; r < rooms; r++) {
            int worth = -1;
            for (int b = 0; b < bundles.size(); b++) {
                int[] row = bundles.get(b);
                if (row[0] == r && (taken >> b & 1) == 0 && row[1] <= 30) worth = Math.max(worth, row[2]);
            }
            if (worth == -1 || far[r] == NONE || !safe(r, t, 0)) continue;
            int rank = rule == 0 ? leave[r] : rule == 1 ? -worth : far[r];
            if (goal == NONE || rank < best) {
                goal = r;
                best = rank;
            }
        }
        return goal;
    }

    private int grab(int r, int taken) {
        int load = 0;
        int set = 0;
        for (int b : byWorth()) {
            int[] row = bundles.get(b);
            if (row[0] != r || (taken >> b & 1) == 1 || load + row[1] > 30) continue;
            load += row[1];
            set |= 1 << b;
        }
        return set;
    }

    private List<Integer> byWorth() {
        List<Integer> order = new ArrayList<>();
        for (int b = 0; b < bundles.size(); b++) order.add(b);
        order.sort((a, b) -> bundles.get(b)[2] - bundles.get(a)[2]);
        return order;
    }

    int doors(int what) {
        if (what < 0 || what > 1) return BAD;
        if (men.isEmpty()) return STATE;
        int shut = tunes[4];
        int most = -1;
        int best = 0;
        for (int d = 0; d < 4096; d++) {
            tune(4, d);
            if (tunes[4] != d) continue;
            for (int set : rows(0, 0, 0).keySet()) {
                if (sum(set, 2) <= most) continue;
                most = sum(set, 2);
                best = d;
            }
        }
        tunes[4] = shut;
        forgetWalks();
        return what == 0 ? best : most;
    }

    // ---- how sure, what is left

    int chance(int j, int k, int v) {
        if (j < 0 || j > 4 || k < 0 || k > 4 || v < 0 || chances[j] < v) return BAD;
        chances[j] -= v;
        return chances[k] += v;
    }

    int sure(int man, int set, int t) {
        if (!isSet(man, set) || t < 0 || t > 999) return BAD;
        int w = why(man, set);
        if (w != 0 && w != 5) return 0;
        int sum = 0;
        for (int k = 0; k < 5; k++) if (safe(roomOf(set), t, k)) sum += chances[k];
        return sum;
    }

    int last(int man, int set, int k) {
        if (!isSet(man, set) || k < 1 || k > 10) return BAD;
        int last = NONE;
        if (sure(man, set, 200) >= k) return 200;
        for (int t = 0; t <= 200 && sure(man, set, t) >= k; t++) last = t;
        return last;
    }

    int lost(int t, int what) {
        if (t < 0 || t > 999 || what < 0 || what > 1) return BAD;
        int[] sums = new int[2];
        for (int b = 0; b < bundles.size(); b++) {
            int[] row = bundles.get(b);
            if ((fetched >> b & 1) == 1) continue;
            int burns = burns(row[0]);
            if (burns != NONE && burns <= t) sums[0] += row[2];
            else sums[1] += row[2] * row[3] / 10;
        }
        return sums[what];
    }

    int loads(int r, int n, int t, int what) {
        if (r < 0 || r >= rooms || n < 1 || n > 40 || t < 0 || t > 999 || what < 0 || what > 1) return BAD;
        int far = far(r);
        if (far == NONE) return STATE;
        int loads = 0;
        if (what == 0) {
            for (int row = far + 1; row <= n; row += far + 1) loads += t < far ? 0 : t - far;
        } else {
            int trip = far == 0 ? 1 : 2 * far;
            for (int back = trip; back <= t; back += trip) loads += n;
        }
        return loads;
    }

    int edge(int r, int t) {
        if (r < 0 || r >= rooms || t < 0 || t > 999) return BAD;
        if (far(r) == NONE) return STATE;
        for (int n = 1; n <= 40; n++) if (loads(r, n, t, 0) > loads(r, n, t, 1)) return n;
        return NONE;
    }

    int place(int b, int slots) {
        if (b < 0 || b >= bundles.size() || slots < 1 || slots > 9) return BAD;
        int[] free = new int[rooms];
        java.util.Arrays.fill(free, slots);
        for (int next : byWorth()) {
            int best = NONE;
            for (int r = 0; r < rooms; r++) {
                if (free[r] == 0) continue;
                if (best == NONE || placeRank(r) < placeRank(best)) best = r;
            }
            if (next == b) return best;
            if (best != NONE) free[best]--;
        }
        return BAD;
    }

    private long placeRank(int r) {
        long leave = leave(r, 0) == NONE ? 0 : 100000 - leave(r, 0);
        long far = far(r) == NONE ? 99999 : far(r);
        return (leave * 100000 + far) * 10 + r;
    }

    // ---- kinds, images

    int price(int kind, int b) {
        if (kind < 0 || kind > 5 || b < 0 || b >= bundles.size()) return -1000000;
        int[] row = bundles.get(b);
        int leave = Math.max(0, leave(row[0], 0));
        int far = Math.max(0, far(row[0]));
        trace += new int[] {1, 11, 101, 1011, 10101, 100001}[kind];
        return switch (kind) {
            case 0 -> row[1];
            case 1 -> row[1] + leave;
            case 2 -> row[1] * row[2];
            case 3 -> row[1] + leave + far;
            case 4 -> row[1] * row[2] - row[3];
            default -> row[1] + Integer.bitCount(tunes[4]);
        };
    }

    int keep(int image) {
        if (image < 0 || image > 1) return BAD;
        images[image] = new int[] {minutes[0], minutes[1], minutes[2], fetched, tunes[4]};
        return Integer.bitCount(fetched);
    }

    int back(int image) {
        if (image < 0 || image > 1) return BAD;
        int[] kept = images[image];
        if (kept == null) return STATE;
        minutes = new int[] {kept[0], kept[1], kept[2]};
        fetched = kept[3];
        tunes[4] = kept[4];
        forgetWalks();
        return Integer.bitCount(fetched);
    }

    int count(int what) {
        int[] counts = {rooms, ways.size(), bundles.size(), men.size(), fires.size(), text.length()};
        return what < 0 || what > 5 ? BAD : counts[what];
    }

    long trace() {
        return trace;
    }
}
