import java.util.Random;

/** All promises at once: runs of random calls, each answer held against PlainModel's. */
public final class RandomRunsTest {
    private static final int RUNS = 600;
    /** An object is used for at most 512 calls. */
    private static final int CALLS = 512;
    /** The most calls by which a text or a row is written. */
    private static final int CALLS_OF_A_ROW = 101;
    private static final int NAMES = 36;

    private final Random random;
    private final LetByTheBirds x = new LetByTheBirds();
    private final PlainModel model = new PlainModel();
    private String call = "";
    private int made = 0;

    private RandomRunsTest(long seed) {
        random = new Random(seed);
    }

    public static void main(String[] args) {
        int[] goodAnswers = new int[NAMES];
        for (int run = 0; run < RUNS; run++) {
            RandomRunsTest r = new RandomRunsTest(run);
            r.settle();
            while (r.made < CALLS) {
                r.oneCall(run, goodAnswers);
            }
            Check.due("calls of one object", r.made, CALLS);
        }
        for (int name = 0; name < NAMES; name++) {
            Check.due("call " + name + " was answered often", goodAnswers[name] > RUNS / 4 ? 1 : 0, 1);
        }
        Check.end();
    }

    private void oneCall(int run, int[] goodAnswers) {
        int name = random.nextInt(NAMES);
        // Isles that live on, with many on them, tell more than those at the end of their days.
        if (name == 6 && random.nextInt(3) > 0) {
            name = 27;
        }
        boolean canWrite = made + CALLS_OF_A_ROW < CALLS;
        if (canWrite && name == 0 && random.nextInt(2) == 0) {
            writeText();
        } else if (canWrite && (name == 19 || name == 20 || name == 24 || name == 25)) {
            writeTrueRow(name);
        }
        long[] both = name < 19 ? early(name) : late(name);
        Check.due("run " + run + ": " + call, both[0], both[1]);
        goodAnswers[name] += both[1] > -1 && both[1] != 1000000001L ? 1 : 0;
    }

    /** Mostly low .. high, often at its ends, at times a little or far out of it. */
    private int in(int low, int high) {
        int how = random.nextInt(60);
        if (how > 55) {
            return how % 2 == 0 ? low : high;
        }
        if (how == 0) {
            return low - 1;
        }
        if (how == 1) {
            return high + 1;
        }
        if (how == 2) {
            return random.nextInt();
        }
        return low + random.nextInt(high - low + 1);
    }

    private int one() {
        return in(0, Math.max(0, model.now.all.size() - 1));
    }

    private long[] said(String name, int[] args, long got, long want) {
        StringBuilder b = new StringBuilder(name).append('(');
        for (int a : args) {
            b.append(a).append(' ');
        }
        call = b.append(')').toString();
        made++;
        return new long[] {got, want};
    }

    private int[] take(int... args) {
        return args;
    }

    private long[] early(int name) {
        int[] a;
        switch (name) {
            case 0: a = take(in(6, 7)); return said("isle", a, x.isle(a[0]), model.isle(a[0]));
            case 1: a = take(one(), in(0, 6)); return said("tenant", a, x.tenant(a[0], a[1]), model.tenant(a[0], a[1]));
            case 2: a = take(in(0, 7), in(0, 99)); return said("comes", a, x.comes(a[0], a[1]), model.comes(a[0], a[1]));
            case 3: a = take(one(), in(0, 99)); return said("stores", a, x.stores(a[0], a[1]), model.stores(a[0], a[1]));
            case 4: int what = in(0, 1);
                a = take(what, in(0, what == 0 ? 9 : 99));
                return said("set", a, x.set(a[0], a[1]), model.set(a[0], a[1]));
            case 5: a = take(one(), one(), in(1, 40));
                return said("lends", a, x.lends(a[0], a[1], a[2]), model.lends(a[0], a[1], a[2]));
            case 6: a = take(in(1, 60)); return said("days", a, x.days(a[0]), model.days(a[0]));
            case 7: a = take(one(), in(0, 60), in(0, 1));
                return said("tenantThen", a, x.tenantThen(a[0], a[1], a[2]), model.tenantThen(a[0], a[1], a[2]));
            case 8: a = take(in(0, 60), in(0, 1)); return said("then", a, x.then(a[0], a[1]), model.then(a[0], a[1]));
            case 9: a = take(in(-1, 6)); return said("goes", a, x.goes(a[0]), model.goes(a[0]));
            case 10: return said("empty", take(), x.empty(), model.empty());
            case 11: a = take(in(0, 1)); return said("rent", a, x.rent(a[0]), model.rent(a[0]));
            case 12: a = take(in(0, 60), in(0, 1));
                return said("bestSea", a, x.bestSea(a[0], a[1]), model.bestSea(a[0], a[1]));
            case 13: return said("leastBirds", take(), x.leastBirds(), model.leastBirds());
            case 14: a = take(one()); return said("leastStore", a, x.leastStore(a[0]), model.leastStore(a[0]));
            case 15: a = take(one(), one()); return said("lend", a, x.lend(a[0], a[1]), model.lend(a[0], a[1]));
            case 16:
            case 17: a = take(in(0, 60), name - 16); return said("send", a, x.send(a[0], a[1]), model.send(a[0], a[1]));
            default: a = take(in(0, 6)); return said("richest", a, x.richest(a[0]), model.richest(a[0]));
        }
    }

    private long[] late(int name) {
        int[] a;
        switch (name) {
            case 19: a = take(5, one(), in(0, 1));
                return said("whatIs", a, x.whatIs(a[0], a[1], a[2]), model.whatIs(a[0], a[1], a[2]));
            case 20: a = take(5); return said("whichSea", a, x.whichSea(a[0]), model.whichSea(a[0]));
            case 21: a = take(one(), one(), in(1, 60));
                return said("two", a, x.two(a[0], a[1], a[2]), model.two(a[0], a[1], a[2]));
            case 22: a = take(one(), in(0, 7), in(2, 20), in(0, 99), in(0, 1));
                return said("storms", a, x.storms(a[0], a[1], a[2], a[3], a[4]),
                    model.storms(a[0], a[1], a[2], a[3], a[4]));
            case 23: a = take(one(), in(0, 1)); return said("share", a, x.share(a[0], a[1]), model.share(a[0], a[1]));
            case 24: a = take(5); return said("forged", a, x.forged(a[0]), model.forged(a[0]));
            case 25: a = take(5); return said("judge", a, x.judge(a[0]), model.judge(a[0]));
            case 26: a = take(in(1, 20), random.nextInt(), in(0, 1));
                return said("years", a, x.years(a[0], a[1], a[2]), model.years(a[0], a[1], a[2]));
            case 27: if (random.nextInt(4) == 0) {
                    return said("image", take(), x.image(), model.image());
                }
                return said("restore", take(), x.restore(), model.restore());
            case 28: a = take(in(0, 5)); return said("count", a, x.count(a[0]), model.count(a[0]));
            case 29: a = take(in(0, 7), random.nextInt(6) == 0 ? 0 : in(1, 1), in(0, 7), in(0, 9));
                return said("keep", a, x.keep(a[0], a[1], a[2], a[3]), model.keep(a[0], a[1], a[2], a[3]));
            case 30: a = take(in(0, 7), in(0, 2), in(0, random.nextInt(5) == 0 ? 100 : 8));
                return said("row", a, x.row(a[0], a[1], a[2]), model.row(a[0], a[1], a[2]));
            case 31: a = take(in(0, 7), in(0, 7), random.nextInt() >> random.nextInt(32));
                return said("put", a, x.put(a[0], a[1], a[2]), model.put(a[0], a[1], a[2]));
            case 32: return element(in(0, 7), in(0, 7));
            case 33: a = take(in(0, 7), in(0, 3), in(0, 7), in(0, 3), in(0, 3));
                return said("copy", a, x.copy(a[0], a[1], a[2], a[3], a[4]), model.copy(a[0], a[1], a[2], a[3], a[4]));
            case 34: a = take(in(0, 7)); return said("cost", a, x.cost(a[0]), model.cost(a[0]));
            default: a = take(in(0, 7)); return said("toss", a, x.toss(a[0]), model.toss(a[0]));
        }
    }

    private long[] element(int d, int i) {
        String got = Check.element(x, d, i);
        String want = model.element(d, i);
        return said("element " + got + " for " + want, take(d, i), got.equals(want) ? 1 : 0, 1);
    }

    private void put(int d, int sort, int[] values) {
        made += 1 + values.length;
        x.row(d, sort, values.length);
        model.row(d, sort, values.length);
        for (int i = 0; i < values.length; i++) {
            x.put(d, i, values[i]);
            model.put(d, i, values[i]);
        }
    }

    /** Most runs begin with some tenants and an image of them, so that there is much to ask. */
    private void settle() {
        if (random.nextInt(4) == 0) {
            toTheLastDays();
        }
        int tenants = random.nextInt(8);
        for (int t = 0; t < tenants; t++) {
            int kind = random.nextInt(8);
            int figure = random.nextInt(10);
            int store = random.nextInt(random.nextBoolean() ? 100 : 30);
            x.keep(0, 1, kind, figure);
            model.keep(0, 1, kind, figure);
            Check.due("settle", x.comes(0, store), model.comes(0, store));
            made += 2;
        }
        Check.due("image", x.image(), model.image());
        made++;
    }

    private void toTheLastDays() {
        for (int i = 0; i < 16; i++) {
            Check.due("days(60)", x.days(60), model.days(60));
            made++;
        }
    }

    /** A text on shelf 6 or 7, mostly of a right form. */
    private void writeText() {
        String forms = "tttsbfwld";
        StringBuilder text = new StringBuilder();
        int statements = 1 + random.nextInt(5);
        for (int s = 0; s < statements; s++) {
            char letter = forms.charAt(random.nextInt(forms.length()));
            text.append(letter).append(numbersBehind(letter)).append(';');
        }
        if (random.nextInt(10) == 0) {
            text.setCharAt(random.nextInt(text.length()), (char) random.nextInt(256));
        }
        if (random.nextInt(10) == 0) {
            text.setLength(random.nextInt(text.length()));
        }
        int[] signs = new int[text.length()];
        for (int i = 0; i < signs.length; i++) {
            signs[i] = text.charAt(i);
        }
        put(6 + random.nextInt(2), 0, signs);
    }

    private String numbersBehind(char letter) {
        int t = Math.floorMod(one(), 10);
        int other = Math.floorMod(one(), 10);
        int two = 10 + random.nextInt(90);
        switch (letter) {
            case 't': return "" + random.nextInt(random.nextInt(9) == 0 ? 10 : 8) + random.nextInt(10) + two;
            case 's': return "" + random.nextInt(10);
            case 'b': return "" + two;
            case 'f': return "" + t + two;
            case 'w': return "" + t + random.nextInt(random.nextInt(9) == 0 ? 10 : 2);
            case 'l': return "" + t + other + "0" + random.nextInt(10);
            default: return "0" + random.nextInt(10);
        }
    }

    /** A row on shelf 5 of what is so, with at most one element wrong, and some skipped. */
    private void writeTrueRow(int name) {
        int sort = random.nextInt(3);
        int[] values = new int[random.nextInt(random.nextInt(8) == 0 ? 101 : 16)];
        int t = Math.max(0, model.now.all.size() - 1);
        for (int i = 0; i < values.length; i++) {
            PlainModel.World then = model.now.later(i);
            boolean one = name == 19 && !then.all.isEmpty();
            values[i] = one ? then.all.get(random.nextInt(20) == 0 ? 0 : t).store : name == 20 ? then.fish() : then.there();
            if (name == 24) {
                values[i] = i < model.now.all.size() ? model.now.all.get(i).store : 0;
            }
            if (random.nextInt(4) == 0 && (name != 24 || random.nextInt(9) == 0)) {
                values[i] = new int[] {-128, -32768, Integer.MIN_VALUE}[sort];
            }
        }
        if (values.length > 0 && random.nextInt(4) == 0) {
            values[random.nextInt(values.length)] += 1;
        }
        put(5, sort, values);
    }
}
