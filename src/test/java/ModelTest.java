/** All promises: rows of calls by a fixed number, each held against Model. */
public final class ModelTest {
    private static final int RUNS = 260;
    private static final int CALLS = 300;

    private long seed;
    private CarryFirst x = new CarryFirst();
    private Model model = new Model();

    private ModelTest(long seed) {
        this.seed = seed * 7919 + 17;
    }

    public static void main(String[] args) {
        int runs = args.length > 0 ? Integer.parseInt(args[0]) : RUNS;
        for (int i = 0; i < runs; i++) new ModelTest(i).go(i);
        Checks.end();
    }

    private void go(int run) {
        for (int i = 0; i < CALLS; i++) {
            if (i % 60 == 0) readHouse(run % 20 == 19 ? fullHouse() : anyHouse(run % 13 == 12 ? 10 : 6));
            call(run);
        }
    }

    /** A number from 0 to n - 1. */
    private int upTo(int n) {
        seed = seed * 6364136223846793005L + 1442695040888963407L;
        return (int) ((seed >>> 33) % n);
    }

    private int from(int least, int most) {
        return least + upTo(most - least + 1);
    }

    /** Mostly between the two, now and then beyond them. */
    private int near(int least, int most) {
        return upTo(12) == 0 ? from(least - 2, most + 2) : from(least, Math.max(least, most));
    }

    private StringBuilder anyHouse(int mostBundles) {
        StringBuilder s = new StringBuilder();
        int rooms = upTo(5) == 0 ? from(1, 8) : from(3, 7);
        s.append("rooms ").append(rooms).append(';');
        int ways = rooms == 1 ? 0 : upTo(4) == 0 ? from(0, 12) : from(rooms - 1, Math.min(12, rooms + 2));
        int longest = upTo(3) == 0 ? 30 : 4;
        int doors = 0;
        for (int w = 0; w < ways; w++) {
            int a = w + 1 < rooms ? w + 1 : upTo(rooms);
            int b = w + 1 < rooms ? upTo(w + 1) : upTo(rooms);
            if (a == b) b = (a + 1) % rooms;
            s.append("way ").append(a).append(' ').append(b).append(' ').append(from(1, longest));
            if (doors < 4 && upTo(3) == 0) {
                doors++;
                s.append(" door");
            }
            s.append(';');
        }
        int bundles = upTo(8) == 0 ? upTo(2) : from(2, mostBundles);
        int heaviest = upTo(3) == 0 ? 99 : 30;
        for (int b = 0; b < bundles; b++) {
            s.append("bundle ").append(upTo(upTo(3) == 0 ? 1 : rooms)).append(' ').append(from(1, heaviest)).append(' ');
            s.append(upTo(upTo(2) == 0 ? 5 : 100)).append(' ').append(upTo(11)).append(';');
        }
        int men = upTo(8) == 0 ? 0 : from(1, 3);
        for (int m = 0; m < men; m++) s.append("man ").append(from(heaviest / 2, heaviest)).append(';');
        int fires = upTo(8) == 0 ? 0 : from(1, 3);
        for (int f = 0; f < fires; f++) {
            s.append("fire ").append(upTo(rooms)).append(' ').append(upTo(upTo(2) == 0 ? 12 : 60)).append(';');
        }
        if (s.length() > 400) s.setLength(400);
        if (upTo(6) == 0) spoil(s);
        return s;
    }

    /** As much of all as a house may have. */
    private StringBuilder fullHouse() {
        StringBuilder s = new StringBuilder("rooms8;");
        int longest = upTo(3) == 0 ? 30 : from(1, 5);
        for (int w = 0; w < 12; w++) {
            int a = w < 7 ? w + 1 : upTo(8);
            int b = w < 7 ? upTo(w + 1) : (a + from(1, 7)) % 8;
            s.append("way").append(a).append(' ').append(b).append(' ').append(from(1, longest));
            s.append(w % 2 == 0 ? "door;" : ";");
        }
        int heaviest = upTo(3) == 0 ? 99 : from(9, 40);
        int rooms = from(1, 8);
        for (int b = 0; b < 10; b++) {
            s.append("bundle").append(upTo(rooms)).append(' ').append(from(1, heaviest)).append(' ');
            s.append(upTo(upTo(2) == 0 ? 5 : 100)).append(' ').append(upTo(11)).append(';');
        }
        for (int m = 0; m < 3; m++) s.append("man").append(from(heaviest / 2, heaviest)).append(';');
        for (int f = 0; f < 4; f++) s.append("fire").append(upTo(8)).append(' ').append(upTo(100)).append(';');
        return s;
    }

    private void readHouse(StringBuilder s) {
        same("clear()", x.clear(), model.clear());
        for (int i = 0; i < s.length(); i += 8) {
            int n = Math.min(8, s.length() - i);
            long v = 0;
            for (int k = 0; k < n; k++) v = v << 8 | s.charAt(i + k);
            same("type()", x.type(v, n), model.type(v, n));
        }
        same("house() of " + s, x.house(), model.house());
    }

    private void spoil(StringBuilder s) {
        String bytes = " ;0159adorswy\n";
        for (int i = upTo(3); i >= 0; i--) {
            int at = upTo(s.length());
            char c = bytes.charAt(upTo(bytes.length()));
            if (upTo(2) == 0) s.setCharAt(at, c);
            else if (upTo(2) == 0) s.deleteCharAt(at);
            else if (s.length() < 400) s.insert(at, c);
        }
    }

    private void same(String call, long got, long want) {
        Checks.due(call, got, want);
    }

    private int someMan() {
        return near(0, model.men.size() - 1);
    }

    private int someBundle() {
        return near(0, model.bundles.size() - 1);
    }

    /** Mostly BUNDLES of one ROOM. */
    private int someSet() {
        int n = model.bundles.size();
        if (n == 0 || upTo(6) == 0) return from(-1, (1 << n) + 1);
        int b = upTo(n);
        int set = 1 << b;
        for (int other = 0; other < n; other++) {
            if (model.bundles.get(other)[0] == model.bundles.get(b)[0] && upTo(3) == 0) set |= 1 << other;
        }
        return set;
    }

    private void call(int run) {
        switch (upTo(8)) {
            case 0: callOfHouse(); break;
            case 1: case 2: callOfPlan(); break;
            case 3: case 4: callOfMost(run); break;
            case 5: case 6: callOfRest(); break;
            default: callOfKinds(); break;
        }
    }

    private void callOfHouse() {
        int a = near(0, 12);
        int what = near(0, 4);
        switch (upTo(6)) {
            case 0: same("way(" + a + ", " + what + ")", x.way(a, what), model.way(a, what)); break;
            case 1: same("bundle(" + a + ", " + what + ")", x.bundle(a, what), model.bundle(a, what)); break;
            case 2: {
                int v = what == 4 ? near(0, 4095) : near(0, what == 1 ? 90 : what == 2 ? 30 : 9);
                same("tune(" + what + ", " + v + ")", x.tune(what, v), model.tune(what, v));
                break;
            }
            case 3: same("count(" + a + ")", x.count(a), model.count(a)); break;
            default: {
                int r = near(0, model.rooms - 1);
                same("room(" + r + ", " + what + ")", x.room(r, what), model.room(r, what));
            }
        }
    }

    private void callOfPlan() {
        int man = someMan();
        int set = someSet();
        int what = near(0, 2);
        String of = "(" + man + ", " + set + ")";
        switch (upTo(7)) {
            case 0: case 1: case 2: same("fetch" + of, x.fetch(man, set), model.fetch(man, set)); break;
            case 3: case 4: same("why" + of, x.why(man, set), model.why(man, set)); break;
            case 5: same("man(" + man + ", " + what + ")", x.man(man, what), model.man(man, what)); break;
            default: same("saved(" + what + ")", x.saved(what), model.saved(what));
        }
        if (upTo(16) == 0) same("anew()", x.anew(), model.anew());
    }

    private void callOfMost(int run) {
        int man = someMan();
        int what = near(0, 3);
        switch (upTo(run % 4 == 0 || run % 40 == 39 ? 4 : 3)) {
            case 0: same("one(" + man + ", " + what + ")", x.one(man, what), model.one(man, what)); break;
            case 1: {
                int m = near(-1, model.men.size() - 1);
                same("all(" + m + ")", x.all(m), model.all(m));
                break;
            }
            case 2: {
                int rule = near(0, 2);
                int n = near(1, 9);
                int w = near(0, 2);
                same("run(" + rule + ", " + n + ", " + w + ")", x.run(rule, n, w), model.run(rule, n, w));
                break;
            }
            default: same("doors(" + (what & 1) + ")", x.doors(what & 1), model.doors(what & 1));
        }
    }

    private void callOfRest() {
        int man = someMan();
        int set = someSet();
        int r = near(0, model.rooms - 1);
        int t = upTo(4) == 0 ? near(0, 999) : near(0, 40);
        int what = near(0, 1);
        int k = near(1, 10);
        switch (upTo(8)) {
            case 0: {
                int a = near(0, 4);
                int b = near(0, 4);
                int v = near(0, 4);
                same("chance(" + a + ", " + b + ", " + v + ")", x.chance(a, b, v), model.chance(a, b, v));
                break;
            }
            case 1: case 2: same("sure(" + man + ", " + set + ", " + t + ")", x.sure(man, set, t), model.sure(man, set, t)); break;
            case 3: same("last(" + man + ", " + set + ", " + k + ")", x.last(man, set, k), model.last(man, set, k)); break;
            case 4: same("lost(" + t + ", " + what + ")", x.lost(t, what), model.lost(t, what)); break;
            case 5: {
                int n = near(1, 40);
                same("loads(" + r + ", " + n + ", " + t + ", " + what + ")", x.loads(r, n, t, what), model.loads(r, n, t, what));
                break;
            }
            case 6: same("edge(" + r + ", " + t + ")", x.edge(r, t), model.edge(r, t)); break;
            default: {
                int b = someBundle();
                int slots = upTo(2) == 0 ? near(1, 2) : near(1, 9);
                same("place(" + b + ", " + slots + ")", x.place(b, slots), model.place(b, slots));
            }
        }
    }

    private void callOfKinds() {
        int kind = near(0, 5);
        int b = someBundle();
        int image = near(0, 1);
        switch (upTo(5)) {
            case 0: case 1: same("price(" + kind + ", " + b + ")", x.price(kind, b), model.price(kind, b)); break;
            case 2: same("keep(" + image + ")", x.keep(image), model.keep(image)); break;
            case 3: same("back(" + image + ")", x.back(image), model.back(image)); break;
            default: same("trace()", x.trace(), model.trace());
        }
    }
}
