import java.util.ArrayList;
import java.util.List;

/** The document once more, written apart from the class: slow, with objects for all, for the random runs. */
final class PlainModel {
    static final class One {
        int kind;
        int figure;
        int store;
        int warnings;
        boolean there = true;

        One(int kind, int figure, int store) {
            this.kind = kind;
            this.figure = figure;
            this.store = store;
        }

        One twin() {
            One o = new One(kind, figure, store);
            o.warnings = warnings;
            o.there = there;
            return o;
        }

        int owes(int birds) {
            int baker = Math.max(8 - figure, 0);
            int clerk = 8 + birds / 10;
            return new int[] {8, 11, baker, clerk, baker / 2, 11, clerk / 2, 0}[kind];
        }

        int catches(int sea, int day) {
            int boatman = sea + figure / 3;
            return new int[] {sea, boatman, 2, sea / 2, day % 2 == 0 ? 3 : 2, day % 3 == 0 ? boatman * 2 : 0,
                sea / 2, 1}[kind];
        }

        int frightens() {
            return kind == 1 ? 1 : kind == 5 ? 2 : 0;
        }
    }

    static final class World {
        List<One> all = new ArrayList<>();
        int sea = 3;
        int birds = 40;
        int day = 0;
        /** Who was warned on the last rent day. */
        List<Integer> warned = new ArrayList<>();

        World twin() {
            World w = new World();
            for (One o : all) {
                w.all.add(o.twin());
            }
            w.sea = sea;
            w.birds = birds;
            w.day = day;
            return w;
        }

        World later(int n) {
            World w = twin();
            for (int i = 0; i < n; i++) {
                w.pass();
            }
            return w;
        }

        void pass() {
            day = day + 1;
            for (One o : all) {
                if (o.there) {
                    o.store = Math.min(o.store + o.catches(sea, day), 99);
                    o.store = Math.max(o.store - 1, 0);
                }
            }
            if (day % 10 != 0) {
                return;
            }
            int want = want();
            warned.clear();
            for (int t = 0; t < all.size(); t++) {
                One o = all.get(t);
                if (!o.there) {
                    continue;
                }
                int owed = o.owes(birds);
                if (o.store >= owed) {
                    o.store -= owed;
                    if (want >= owed) {
                        want -= owed;
                        o.warnings = 0;
                        continue;
                    }
                    want = 0;
                }
                o.warnings++;
                warned.add(t);
            }
            for (One o : all) {
                if (o.warnings == 2) {
                    o.there = false;
                }
            }
            birds = Math.min(99, Math.max(0, birds + sea - 3));
        }

        int want() {
            int left = sea;
            for (One o : all) {
                left -= o.there ? o.frightens() : 0;
            }
            return Math.max(0, birds - 5 * Math.max(left, 0));
        }

        int toRent() {
            int n = 1;
            while ((day + n) % 10 != 0) {
                n++;
            }
            return n;
        }

        List<Integer> warnedNext() {
            return later(toRent()).warned;
        }

        int bits() {
            int b = 0;
            for (int t = 0; t < all.size(); t++) {
                b += all.get(t).there ? 1 << t : 0;
            }
            return b;
        }

        int there() {
            int n = 0;
            for (One o : all) {
                n += o.there ? 1 : 0;
            }
            return n;
        }

        int fish() {
            int n = 0;
            for (One o : all) {
                n += o.there ? o.store : 0;
            }
            return n;
        }

        boolean loan(int a, int b, int fish) {
            One from = all.get(a);
            One to = all.get(b);
            if (!from.there || !to.there || fish < 1 || from.store < fish || to.store + fish > 99) {
                return false;
            }
            from.store -= fish;
            to.store += fish;
            return true;
        }
    }

    /** What a shelf holds: a row (values) or one (kind and figure). */
    static final class Held {
        int[] values;
        int sort;
        int kind;
        int figure;
    }

    World now = new World();
    World image = null;
    Held[] shelf = new Held[8];

    private boolean no(int t) {
        return t < 0 || t >= now.all.size();
    }

    private static boolean out(int v, int low, int high) {
        return v < low || v > high;
    }

    private int noRow(int d) {
        return out(d, 0, 7) ? -1 : shelf[d] == null ? -11 : shelf[d].values == null ? -12 : 0;
    }

    private int noOne(int d) {
        return out(d, 0, 7) ? -1 : shelf[d] == null ? -11 : shelf[d].values != null ? -12 : 0;
    }

    int isle(int d) {
        if (noRow(d) != 0) {
            return noRow(d);
        }
        if (shelf[d].sort != 0) {
            return -12;
        }
        StringBuilder chars = new StringBuilder();
        for (int v : shelf[d].values) {
            chars.append((char) (v & 255));
        }
        String text = chars.toString();
        String[] forms = {"t9999;", "s9;", "b99;", "f999;", "w99;", "l9999;", "d99;"};
        int at = 0;
        do {
            String form = null;
            for (String f : forms) {
                if (at < text.length() && text.charAt(at) == f.charAt(0)) {
                    form = f;
                }
            }
            if (form == null) {
                return -1000 - at;
            }
            for (int i = 0; i < form.length(); i++, at++) {
                boolean fits = at < text.length()
                    && (form.charAt(i) == '9' ? "0123456789".indexOf(text.charAt(at)) >= 0
                        : form.charAt(i) == text.charAt(at));
                if (!fits) {
                    return -1000 - at;
                }
            }
        } while (at < text.length());
        World w = now.twin();
        int place = 0;
        String[] statements = text.split(";");
        for (String s : statements) {
            if (!does(w, s)) {
                return -2000 - place;
            }
            place += s.length() + 1;
        }
        now = w;
        return statements.length;
    }

    private static boolean does(World w, String s) {
        int last = Integer.parseInt(s.substring(Math.max(1, s.length() - 2)));
        int first = s.charAt(1) - '0';
        int second = s.length() > 2 ? s.charAt(2) - '0' : 0;
        switch (s.charAt(0)) {
            case 't':
                if (first > 7 || w.all.size() == 7) {
                    return false;
                }
                w.all.add(new One(first, second, last));
                return true;
            case 's':
                w.sea = last;
                return true;
            case 'b':
                w.birds = last;
                return true;
            case 'f':
                if (first >= w.all.size()) {
                    return false;
                }
                w.all.get(first).store = last;
                return true;
            case 'w':
                if (first >= w.all.size() || !w.all.get(first).there || second > 1) {
                    return false;
                }
                w.all.get(first).warnings = second;
                return true;
            case 'l':
                return first < w.all.size() && second < w.all.size() && first != second && w.loan(first, second, last);
            default:
                if (last < 1 || last > 60 || w.day + last > 999) {
                    return false;
                }
                for (int i = 0; i < last; i++) {
                    w.pass();
                }
                return true;
        }
    }

    int tenant(int t, int what) {
        if (no(t) || out(what, 0, 6)) {
            return -1;
        }
        One o = now.all.get(t);
        return new int[] {o.kind, o.figure, o.store, o.warnings, o.there ? 1 : 0, o.owes(now.birds),
            o.catches(now.sea, now.day + 1)}[what];
    }

    int comes(int d, int store) {
        if (out(d, 0, 7) || out(store, 0, 99)) {
            return -1;
        }
        if (noOne(d) != 0) {
            return noOne(d);
        }
        if (now.all.size() == 7) {
            return -2;
        }
        now.all.add(new One(shelf[d].kind, shelf[d].figure, store));
        return now.all.size() - 1;
    }

    int stores(int t, int v) {
        if (no(t) || out(v, 0, 99)) {
            return -1;
        }
        int old = now.all.get(t).store;
        now.all.get(t).store = v;
        return old;
    }

    int set(int what, int v) {
        if (out(what, 0, 1) || out(v, 0, what == 0 ? 9 : 99)) {
            return -1;
        }
        int old = what == 0 ? now.sea : now.birds;
        if (what == 0) {
            now.sea = v;
        } else {
            now.birds = v;
        }
        return old;
    }

    int lends(int a, int b, int fish) {
        if (no(a) || no(b) || a == b || out(fish, 1, 99)) {
            return -1;
        }
        return now.loan(a, b, fish) ? now.all.get(a).store : -3;
    }

    int days(int n) {
        if (out(n, 1, 60)) {
            return -1;
        }
        if (now.day + n > 999) {
            return -3;
        }
        now = now.later(n);
        return now.there();
    }

    int tenantThen(int t, int n, int what) {
        if (no(t) || out(n, 0, 60) || out(what, 0, 1)) {
            return -1;
        }
        One o = now.later(n).all.get(t);
        return what == 0 ? o.store : o.warnings;
    }

    int then(int n, int what) {
        if (out(n, 0, 60) || out(what, 0, 1)) {
            return -1;
        }
        return what == 0 ? now.later(n).bits() : now.later(n).birds;
    }

    int goes(int t) {
        if (t != -1 && no(t)) {
            return -1;
        }
        for (int n = 0; n <= 60; n++) {
            World w = now.later(n);
            for (int i = 0; i < w.all.size(); i++) {
                if (w.all.get(i).there) {
                    continue;
                }
                if (t == i) {
                    return n;
                }
                if (t == -1 && now.all.get(i).there) {
                    return i;
                }
            }
        }
        return -4;
    }

    int empty() {
        for (int n = 0; n <= 60; n++) {
            if (now.later(n).there() == 0) {
                return n;
            }
        }
        return -4;
    }

    int rent(int what) {
        if (out(what, 0, 1)) {
            return -1;
        }
        if (what == 0) {
            return now.later(now.toRent() - 1).want();
        }
        int bits = 0;
        for (int t : now.warnedNext()) {
            bits += 1 << t;
        }
        return bits;
    }

    int bestSea(int n, int what) {
        if (out(n, 0, 60) || out(what, 0, 1)) {
            return -1;
        }
        int[] there = new int[10];
        int most = 0;
        for (int s = 0; s < 10; s++) {
            World w = now.twin();
            w.sea = s;
            there[s] = w.later(n).there();
            most = Math.max(most, there[s]);
        }
        int s = 0;
        while (there[s] != most) {
            s++;
        }
        return what == 0 ? s : most;
    }

    int leastBirds() {
        for (int b = 0; b < 100; b++) {
            World w = now.twin();
            w.birds = b;
            if (w.warnedNext().isEmpty()) {
                return b;
            }
        }
        return -4;
    }

    int leastStore(int t) {
        if (no(t)) {
            return -1;
        }
        for (int v = 0; v < 100 && now.all.get(t).there; v++) {
            World w = now.twin();
            w.all.get(t).store = v;
            if (!w.warnedNext().contains(t)) {
                return v;
            }
        }
        return -4;
    }

    int lend(int a, int b) {
        if (no(a) || no(b) || a == b) {
            return -1;
        }
        if (!now.all.get(a).there || !now.all.get(b).there) {
            return -3;
        }
        for (int f = 0; f < 100; f++) {
            World w = now.twin();
            if ((f == 0 || w.loan(a, b, f)) && !w.warnedNext().contains(b)) {
                return f;
            }
        }
        return -4;
    }

    int send(int n, int what) {
        if (out(n, 0, 60) || out(what, 0, 1)) {
            return -1;
        }
        int best = -4;
        int most = -1;
        World plain = now.later(n);
        for (int a = 0; a < now.all.size(); a++) {
            if (!now.all.get(a).there) {
                continue;
            }
            if (what == 0) {
                World w = now.twin();
                w.all.get(a).there = false;
                int others = w.later(n).there();
                int asItIs = plain.there() - (plain.all.get(a).there ? 1 : 0);
                if (others > asItIs && others > most) {
                    most = others;
                    best = a;
                }
            }
            for (int b = a + 1; b < now.all.size() && what == 1; b++) {
                if (now.all.get(b).there) {
                    World w = now.twin();
                    int kept = w.all.get(a).store;
                    w.all.get(a).store = w.all.get(b).store;
                    w.all.get(b).store = kept;
                    int count = w.later(n).there();
                    if (count > plain.there() && count > most) {
                        most = count;
                        best = a * 10 + b;
                    }
                }
            }
        }
        return best;
    }

    int richest(int what) {
        int who = -4;
        int owed = 0;
        int poor = 0;
        for (int t = 0; t < now.all.size(); t++) {
            One o = now.all.get(t);
            if (o.there) {
                who = who == -4 || o.store > now.all.get(who).store ? t : who;
                owed += o.owes(now.birds);
                poor += o.store < o.owes(now.birds) ? 1 << t : 0;
            }
        }
        if (what == 5 || what == 6) {
            return sets(what);
        }
        return out(what, 0, 4) ? -1 : new int[] {who, now.toRent(), owed, now.fish(), poor}[what];
    }

    private int sets(int what) {
        int greatest = 0;
        int ways = 0;
        for (int set = 127; set >= 0; set--) {
            int fish = 0;
            int owed = 0;
            boolean can = true;
            for (int t = 0; t < 7; t++) {
                if ((set >> t) % 2 == 1) {
                    can = can && t < now.all.size() && now.all.get(t).there;
                    fish += can ? now.all.get(t).store : 0;
                    owed += can ? now.all.get(t).owes(now.birds) : 0;
                }
            }
            if (can && fish >= 2 * owed && Integer.bitCount(set) >= Integer.bitCount(greatest)) {
                greatest = set;
            }
            // A way is told by the side on which the least one stands.
            int least = now.bits() & -now.bits();
            if (can && fish * 2 == now.fish() && (set & least) == least) {
                ways++;
            }
        }
        return what == 5 ? greatest : ways;
    }

    private boolean so(Held row, int i, int value) {
        return row.values[i] == new int[] {-128, -32768, -2147483648}[row.sort] || row.values[i] == value;
    }

    int whatIs(int d, int t, int what) {
        if (out(d, 0, 7) || no(t) || out(what, 0, 1)) {
            return -1;
        }
        if (noRow(d) != 0) {
            return noRow(d);
        }
        int bits = 0;
        for (int c = 0; c < (what == 0 ? 8 : 10); c++) {
            World w = now.twin();
            w.all.get(t).kind = what == 0 ? c : w.all.get(t).kind;
            w.all.get(t).figure = what == 1 ? c : w.all.get(t).figure;
            boolean all = true;
            for (int i = 0; i < shelf[d].values.length; i++) {
                all = all && so(shelf[d], i, w.all.get(t).store);
                w.pass();
            }
            bits += all ? 1 << c : 0;
        }
        return bits;
    }

    int whichSea(int d) {
        if (noRow(d) != 0) {
            return noRow(d);
        }
        int bits = 0;
        for (int s = 0; s < 10; s++) {
            World w = now.twin();
            w.sea = s;
            boolean all = true;
            for (int i = 0; i < shelf[d].values.length; i++) {
                all = all && so(shelf[d], i, w.fish());
                w.pass();
            }
            bits += all ? 1 << s : 0;
        }
        return bits;
    }

    private int points(int me, int gives, int other, int otherGives, int n) {
        World w = now.twin();
        One m = w.all.get(me);
        One o = w.all.get(other);
        m.store -= gives == 1 ? m.store / 2 : 0;
        o.store -= otherGives == 1 ? o.store / 2 : 0;
        World end = w.later(n);
        int points = gives;
        for (int t = 0; t < end.all.size(); t++) {
            if (t == me) {
                points += end.all.get(t).there ? 5 : 0;
            } else {
                points += end.all.get(t).there ? 0 : 1;
            }
        }
        return points;
    }

    int two(int a, int b, int n) {
        if (no(a) || no(b) || a == b || out(n, 1, 60)) {
            return -1;
        }
        if (!now.all.get(a).there || !now.all.get(b).there) {
            return -3;
        }
        for (int x = 0; x < 2; x++) {
            for (int y = 0; y < 2; y++) {
                if (points(a, x, b, y, n) >= points(a, 1 - x, b, y, n)
                        && points(b, y, a, x, n) >= points(b, 1 - y, a, x, n)) {
                    return x * 10 + y;
                }
            }
        }
        return -4;
    }

    /** How many of u to the n likely ways end with v fish or more. */
    private long likely(World w, int t, int n, int u, int v, int sea) {
        if (n == 0) {
            return w.all.get(t).store >= v ? 1 : 0;
        }
        World storm = w.twin();
        storm.sea = 0;
        World fair = w.twin();
        fair.sea = sea;
        return likely(storm.later(1), t, n - 1, u, v, sea) + (u - 1) * likely(fair.later(1), t, n - 1, u, v, sea);
    }

    private static long least(long above, long below, int part) {
        long a = above;
        long b = below;
        while (b != 0) {
            long r = a % b;
            a = b;
            b = r;
        }
        return (part == 0 ? above : below) / a;
    }

    long storms(int t, int n, int u, int v, int part) {
        if (no(t) || out(n, 0, 7) || out(u, 2, 20) || out(v, 0, 99) || out(part, 0, 1)) {
            return 1000000001L;
        }
        long below = 1;
        for (int i = 0; i < n; i++) {
            below *= u;
        }
        return least(likely(now, t, n, u, v, now.sea), below, part);
    }

    long share(int t, int part) {
        if (no(t) || out(part, 0, 1)) {
            return 1000000001L;
        }
        if (!now.all.get(t).there || now.fish() == 0) {
            return part;
        }
        return least(now.all.get(t).store, now.fish(), part);
    }

    int forged(int d) {
        if (noRow(d) != 0) {
            return noRow(d);
        }
        for (int i = 0; i < shelf[d].values.length; i++) {
            if (no(i) || now.all.get(i).store != shelf[d].values[i]) {
                return i;
            }
        }
        return -4;
    }

    int judge(int d) {
        if (noRow(d) != 0) {
            return noRow(d);
        }
        for (int i = 0; i < shelf[d].values.length; i++) {
            if (!so(shelf[d], i, now.later(i).there())) {
                return i;
            }
        }
        return -4;
    }

    private long seed;

    private int draw(int n) {
        seed = (seed * 1103515245L + 12345L) & 0xffffffffL;
        return (int) (((seed & 0x7fffffffL) >> 16) % n);
    }

    int years(int n, int z, int what) {
        if (out(n, 1, 20) || out(what, 0, 1)) {
            return -1;
        }
        seed = z;
        int there = 0;
        int birds = 0;
        for (int i = 0; i < n; i++) {
            World w = now.twin();
            w.sea = draw(10);
            w.birds = draw(100);
            World end = w.later(20);
            there += end.there();
            birds += end.birds;
        }
        return what == 0 ? there : birds;
    }

    int image() {
        image = now.twin();
        return now.day;
    }

    int restore() {
        if (image == null) {
            return -3;
        }
        now = image.twin();
        return now.day;
    }

    int count(int what) {
        return out(what, 0, 5) ? -1
            : new int[] {now.all.size(), now.day, now.sea, now.birds, now.bits(), now.fish()}[what];
    }

    int keep(int d, int what, int k, int figure) {
        if (out(d, 0, 7) || out(what, 0, 1) || what == 1 && (out(k, 0, 7) || out(figure, 0, 9))) {
            return -1;
        }
        shelf[d] = what == 0 ? null : new Held();
        if (what == 1) {
            shelf[d].kind = k;
            shelf[d].figure = figure;
        }
        return 0;
    }

    int row(int d, int sort, int n) {
        if (out(d, 0, 7) || out(sort, 0, 2) || n > 100) {
            return -1;
        }
        if (n < 0) {
            return -14;
        }
        shelf[d] = new Held();
        shelf[d].sort = sort;
        shelf[d].values = new int[n];
        return 0;
    }

    int put(int d, int i, int v) {
        if (noRow(d) != 0) {
            return noRow(d);
        }
        if (out(i, 0, shelf[d].values.length - 1)) {
            return -13;
        }
        shelf[d].values[i] = shelf[d].sort == 0 ? (byte) v : shelf[d].sort == 1 ? (short) v : v;
        return 0;
    }

    String element(int d, int i) {
        if (out(d, 0, 7)) {
            return "IllegalArgumentException";
        }
        if (noRow(d) != 0 || out(i, 0, shelf[d].values.length - 1)) {
            return "IllegalStateException";
        }
        return Long.toString(shelf[d].values[i]);
    }

    int copy(int d, int i, int e, int j, int n) {
        if (out(d, 0, 7) || out(e, 0, 7)) {
            return -1;
        }
        if (shelf[d] == null || shelf[e] == null) {
            return -11;
        }
        int[] from = shelf[d].values;
        int[] to = shelf[e].values;
        if (from == null || to == null || shelf[d].sort != shelf[e].sort) {
            return -12;
        }
        if (n < 0 || i < 0 || j < 0 || (long) i + n > from.length || (long) j + n > to.length) {
            return -13;
        }
        int[] held = from.clone();
        for (int k = 0; k < n; k++) {
            to[j + k] = held[i + k];
        }
        return n;
    }

    int cost(int d) {
        if (noOne(d) != 0) {
            return noOne(d);
        }
        int f = shelf[d].figure;
        return new int[] {3, 3 + f, 1, 5, 0, 6 + 2 * f, 5 + f, 0}[shelf[d].kind];
    }

    int toss(int d) {
        if (noOne(d) != 0) {
            return noOne(d);
        }
        int f = shelf[d].figure;
        int answer = new int[] {f, 100 + f, -15, f, -15, 100 + f, 205 + f, -15}[shelf[d].kind];
        return f == 0 ? -15 : answer;
    }
}
