/** The isle that is let by the birds, as ../shared/DOC.md tells it. */
public final class LetByTheBirds {
    private static final int NO_SUCH = -1;
    private static final int NO_ROOM = -2;
    private static final int NOT_AS_MUST_BE = -3;
    private static final int NONE = -4;
    private static final int NOTHING_HELD = -11;
    private static final int ANOTHER_KIND = -12;
    private static final int NO_PLACE = -13;
    private static final int BELOW_ZERO = -14;
    private static final int NO_FAILURE = -15;
    private static final long LONG_REFUSALS = 1000000000L;

    private static final int MOST_TENANTS = 7;
    private static final int KINDS = 8;
    private static final int MOST_FIGURE = 9;
    private static final int MOST_STORE = 99;
    private static final int MOST_BIRDS = 99;
    private static final int MOST_SEA = 9;
    private static final int MOST_DAY = 999;
    private static final int DAYS_AHEAD = 60;
    private static final int RENT_EVERY = 10;
    private static final int WARNINGS_TO_GO = 2;
    private static final int SHELVES = 8;
    private static final int MOST_ELEMENTS = 100;
    private static final int MOST_STORMS = 7;
    private static final int MOST_YEARS = 20;
    private static final int DAYS_OF_A_YEAR = 20;

    private final Isle isle;
    private final Isle image;
    /** Every question of days to come is tried here, so that no call makes an isle of its own. */
    private final Isle mind;
    private final Shelf[] shelves;
    private final int[] gainsOfOne;
    private final int[] gainsOfOther;
    private boolean imageTaken;

    public LetByTheBirds() {
        isle = new Isle();
        image = new Isle();
        mind = new Isle();
        shelves = new Shelf[SHELVES];
        for (int d = 0; d < SHELVES; d++) {
            shelves[d] = new Shelf();
        }
        gainsOfOne = new int[4];
        gainsOfOther = new int[4];
    }

    // ---- the isle as told

    public int isle(int d) {
        int refused = refusalOfRow(d);
        if (refused != 0) {
            return refused;
        }
        Shelf text = shelves[d];
        if (text.sort != Shelf.BYTES) {
            return ANOTHER_KIND;
        }
        int wrong = Text.placeOfWrongForm(text);
        if (wrong >= 0) {
            return -1000 - wrong;
        }
        // The statements are tried in mind: with a fault in one of them none may have come.
        mind.become(isle);
        int statements = 0;
        int at = 0;
        while (at < text.size && statements < MOST_ELEMENTS) {
            if (!Text.comeTrue(text, at, mind)) {
                return -2000 - at;
            }
            at = Text.behindStatement(text, at);
            statements++;
        }
        isle.become(mind);
        return statements;
    }

    public int tenant(int t, int what) {
        if (!isle.knows(t)) {
            return NO_SUCH;
        }
        switch (what) {
            case 0: return isle.kind[t];
            case 1: return isle.figure[t];
            case 2: return isle.store[t];
            case 3: return isle.warnings[t];
            case 4: return isle.isThere(t) ? 1 : 0;
            case 5: return isle.owedBy(t);
            case 6: return isle.catchOf(t, isle.day + 1);
            default: return NO_SUCH;
        }
    }

    public int comes(int d, int store) {
        if (!within(store, 0, MOST_STORE)) {
            return NO_SUCH;
        }
        int refused = refusalOfOne(d);
        if (refused != 0) {
            return refused;
        }
        boolean taken = isle.takeIn(shelves[d].kind, shelves[d].figure, store);
        return taken ? isle.tenants - 1 : NO_ROOM;
    }

    public int stores(int t, int v) {
        if (!isle.knows(t) || !within(v, 0, MOST_STORE)) {
            return NO_SUCH;
        }
        int old = isle.store[t];
        isle.store[t] = v;
        return old;
    }

    public int set(int what, int v) {
        if (what == 0 && within(v, 0, MOST_SEA)) {
            int old = isle.sea;
            isle.sea = v;
            return old;
        }
        if (what == 1 && within(v, 0, MOST_BIRDS)) {
            int old = isle.birds;
            isle.birds = v;
            return old;
        }
        return NO_SUCH;
    }

    public int lends(int a, int b, int fish) {
        if (!areTwo(a, b) || !within(fish, 1, MOST_STORE)) {
            return NO_SUCH;
        }
        if (!isle.canLend(a, b, fish)) {
            return NOT_AS_MUST_BE;
        }
        isle.handOver(a, b, fish);
        return isle.store[a];
    }

    public int days(int n) {
        if (!within(n, 1, DAYS_AHEAD)) {
            return NO_SUCH;
        }
        if (!isle.hasDaysLeft(n)) {
            return NOT_AS_MUST_BE;
        }
        isle.goOn(n);
        return isle.howManyThere();
    }

    // ---- days on

    public int tenantThen(int t, int n, int what) {
        if (!isle.knows(t) || !within(n, 0, DAYS_AHEAD) || !within(what, 0, 1)) {
            return NO_SUCH;
        }
        mind.become(isle);
        mind.goOn(n);
        return what == 0 ? mind.store[t] : mind.warnings[t];
    }

    public int then(int n, int what) {
        if (!within(n, 0, DAYS_AHEAD) || !within(what, 0, 1)) {
            return NO_SUCH;
        }
        mind.become(isle);
        mind.goOn(n);
        return what == 0 ? mind.there : mind.birds;
    }

    public int goes(int t) {
        if (t == -1) {
            return firstToGo();
        }
        if (!isle.knows(t)) {
            return NO_SUCH;
        }
        return daysUntilNoneOf(1 << t);
    }

    public int empty() {
        return daysUntilNoneOf(isle.there);
    }

    public int rent(int what) {
        if (!within(what, 0, 1)) {
            return NO_SUCH;
        }
        if (what == 0) {
            // Nobody goes and BIRDS stay as many up to the next RENT DAY.
            return isle.wants();
        }
        mind.become(isle);
        return mind.goOnToRent();
    }

    private int firstToGo() {
        mind.become(isle);
        for (int n = 1; n <= DAYS_AHEAD; n++) {
            mind.oneDay();
            int gone = isle.there & ~mind.there;
            if (gone != 0) {
                return Integer.numberOfTrailingZeros(gone);
            }
        }
        return NONE;
    }

    /** Behind how many DAYS none of these (bits) is THERE first. */
    private int daysUntilNoneOf(int those) {
        mind.become(isle);
        for (int n = 0; n <= DAYS_AHEAD; n++) {
            if ((mind.there & those) == 0) {
                return n;
            }
            mind.oneDay();
        }
        return NONE;
    }

    // ---- what is best

    public int bestSea(int n, int what) {
        if (!within(n, 0, DAYS_AHEAD) || !within(what, 0, 1)) {
            return NO_SUCH;
        }
        int best = 0;
        int most = -1;
        for (int sea = 0; sea <= MOST_SEA; sea++) {
            mind.become(isle);
            mind.sea = sea;
            mind.goOn(n);
            if (mind.howManyThere() > most) {
                most = mind.howManyThere();
                best = sea;
            }
        }
        return what == 0 ? best : most;
    }

    public int leastBirds() {
        for (int birds = 0; birds <= MOST_BIRDS; birds++) {
            mind.become(isle);
            mind.birds = birds;
            if (mind.goOnToRent() == 0) {
                return birds;
            }
        }
        return NONE;
    }

    public int leastStore(int t) {
        if (!isle.knows(t)) {
            return NO_SUCH;
        }
        if (!isle.isThere(t)) {
            return NONE;
        }
        for (int store = 0; store <= MOST_STORE; store++) {
            mind.become(isle);
            mind.store[t] = store;
            if (!hasBit(mind.goOnToRent(), t)) {
                return store;
            }
        }
        return NONE;
    }

    public int lend(int a, int b) {
        if (!areTwo(a, b)) {
            return NO_SUCH;
        }
        if (!isle.isThere(a) || !isle.isThere(b)) {
            return NOT_AS_MUST_BE;
        }
        mind.become(isle);
        if (!hasBit(mind.goOnToRent(), b)) {
            return 0;
        }
        for (int fish = 1; fish <= MOST_STORE && isle.canLend(a, b, fish); fish++) {
            mind.become(isle);
            mind.handOver(a, b, fish);
            if (!hasBit(mind.goOnToRent(), b)) {
                return fish;
            }
        }
        return NONE;
    }

    public int send(int n, int what) {
        if (!within(n, 0, DAYS_AHEAD) || !within(what, 0, 1)) {
            return NO_SUCH;
        }
        mind.become(isle);
        mind.goOn(n);
        return what == 0 ? whomToSend(n, mind.there) : whoShouldTurn(n, mind.howManyThere());
    }

    public int richest(int what) {
        switch (what) {
            case 0: return isle.richestThere();
            case 1: return isle.daysToRent();
            case 2: return isle.owedBySet(isle.there);
            case 3: return isle.storeOfSet(isle.there);
            case 4: return isle.poor();
            case 5: return greatestEven();
            case 6: return waysToPart();
            default: return NO_SUCH;
        }
    }

    /** thereAsItIs: who is THERE (bits) behind n DAYS if nobody is sent away. */
    private int whomToSend(int n, int thereAsItIs) {
        int whom = NONE;
        int most = -1;
        for (int t = 0; t < isle.tenants; t++) {
            if (!isle.isThere(t)) {
                continue;
            }
            mind.become(isle);
            mind.sendAway(t);
            mind.goOn(n);
            int others = mind.howManyThere();
            if (others > Integer.bitCount(thereAsItIs & ~(1 << t)) && others > most) {
                most = others;
                whom = t;
            }
        }
        return whom;
    }

    /** asItIs: how many are THERE behind n DAYS if nobody turns. */
    private int whoShouldTurn(int n, int asItIs) {
        int who = NONE;
        int most = asItIs;
        for (int a = 0; a < isle.tenants; a++) {
            for (int b = a + 1; b < isle.tenants; b++) {
                if (!isle.isThere(a) || !isle.isThere(b)) {
                    continue;
                }
                mind.become(isle);
                mind.store[a] = isle.store[b];
                mind.store[b] = isle.store[a];
                mind.goOn(n);
                if (mind.howManyThere() > most) {
                    most = mind.howManyThere();
                    who = 10 * a + b;
                }
            }
        }
        return who;
    }

    private int greatestEven() {
        int greatest = 0;
        for (int those = 1; those < 1 << MOST_TENANTS; those++) {
            if ((those & ~isle.there) == 0
                    && Integer.bitCount(those) > Integer.bitCount(greatest)
                    && isle.storeOfSet(those) >= 2 * isle.owedBySet(those)) {
                greatest = those;
            }
        }
        return greatest;
    }

    private int waysToPart() {
        int all = isle.storeOfSet(isle.there);
        int sides = 0;
        for (int those = 0; those < 1 << MOST_TENANTS; those++) {
            if ((those & ~isle.there) == 0 && 2 * isle.storeOfSet(those) == all) {
                sides++;
            }
        }
        // Each way was met from both its sides, but that of nobody, whose sides are the same.
        return (sides + 1) / 2;
    }

    // ---- what kind one is, which sea

    public int whatIs(int d, int t, int what) {
        if (!isle.knows(t) || !within(what, 0, 1)) {
            return NO_SUCH;
        }
        int refused = refusalOfRow(d);
        if (refused != 0) {
            return refused;
        }
        int choices = what == 0 ? KINDS : MOST_FIGURE + 1;
        int found = 0;
        for (int c = 0; c < choices; c++) {
            mind.become(isle);
            if (what == 0) {
                mind.kind[t] = c;
            } else {
                mind.figure[t] = c;
            }
            if (tellsStoreOf(shelves[d], t)) {
                found |= 1 << c;
            }
        }
        return found;
    }

    public int whichSea(int d) {
        int refused = refusalOfRow(d);
        if (refused != 0) {
            return refused;
        }
        int found = 0;
        for (int sea = 0; sea <= MOST_SEA; sea++) {
            mind.become(isle);
            mind.sea = sea;
            if (tellsAllStores(shelves[d])) {
                found |= 1 << sea;
            }
        }
        return found;
    }

    public int two(int a, int b, int n) {
        if (!areTwo(a, b) || !within(n, 1, DAYS_AHEAD)) {
            return NO_SUCH;
        }
        if (!isle.isThere(a) || !isle.isThere(b)) {
            return NOT_AS_MUST_BE;
        }
        for (int pair = 0; pair < 4; pair++) {
            tryGiving(a, b, pair, n);
        }
        for (int pair = 0; pair < 4; pair++) {
            // In a pair's two bits the upper one is the choice of the one, the lower that of the other.
            if (gainsOfOne[pair] >= gainsOfOne[pair ^ 2] && gainsOfOther[pair] >= gainsOfOther[pair ^ 1]) {
                return 10 * (pair >> 1) + (pair & 1);
            }
        }
        return NONE;
    }

    public long storms(int t, int n, int u, int v, int part) {
        boolean asked = isle.knows(t) && within(n, 0, MOST_STORMS) && within(u, 2, 20)
            && within(v, 0, MOST_STORE) && within(part, 0, 1);
        if (!asked) {
            return LONG_REFUSALS - NO_SUCH;
        }
        long above = 0;
        for (int stormy = 0; stormy < 1 << n; stormy++) {
            weather(n, stormy);
            if (mind.store[t] >= v) {
                above += power(u - 1, n - Integer.bitCount(stormy));
            }
        }
        return inLeastTerms(above, power(u, n), part);
    }

    public long share(int t, int part) {
        if (!isle.knows(t) || !within(part, 0, 1)) {
            return LONG_REFUSALS - NO_SUCH;
        }
        int all = isle.storeOfSet(isle.there);
        if (all == 0 || !isle.isThere(t)) {
            return part;
        }
        return inLeastTerms(isle.store[t], all, part);
    }

    /** Whether the row tells STORE of t in mind, as it is there and day by day from then on. */
    private boolean tellsStoreOf(Shelf row, int t) {
        for (int i = 0; i < row.size; i++) {
            if (!row.isSkipped(i) && row.elements[i] != mind.store[t]) {
                return false;
            }
            mind.oneDay();
        }
        return true;
    }

    private boolean tellsAllStores(Shelf row) {
        for (int i = 0; i < row.size; i++) {
            if (!row.isSkipped(i) && row.elements[i] != mind.storeOfSet(mind.there)) {
                return false;
            }
            mind.oneDay();
        }
        return true;
    }

    private void tryGiving(int a, int b, int pair, int n) {
        int givesOne = pair >> 1;
        int givesOther = pair & 1;
        mind.become(isle);
        mind.store[a] -= givesOne * (isle.store[a] / 2);
        mind.store[b] -= givesOther * (isle.store[b] / 2);
        mind.goOn(n);
        gainsOfOne[pair] = gainInMind(a) + givesOne;
        gainsOfOther[pair] = gainInMind(b) + givesOther;
    }

    private int gainInMind(int t) {
        int gone = mind.tenants - mind.howManyThere();
        return mind.isThere(t) ? 5 + gone : gone - 1;
    }

    /** n DAYS pass in mind; on those of the bits set it storms. */
    private void weather(int n, int stormy) {
        mind.become(isle);
        for (int i = 0; i < n; i++) {
            mind.sea = hasBit(stormy, i) ? 0 : isle.sea;
            mind.oneDay();
        }
    }

    // ---- told ledgers, years by seeds

    public int forged(int d) {
        int refused = refusalOfRow(d);
        if (refused != 0) {
            return refused;
        }
        Shelf row = shelves[d];
        for (int t = 0; t < row.size; t++) {
            if (!isle.knows(t) || row.elements[t] != isle.store[t]) {
                return t;
            }
        }
        return NONE;
    }

    public int judge(int d) {
        int refused = refusalOfRow(d);
        if (refused != 0) {
            return refused;
        }
        Shelf row = shelves[d];
        mind.become(isle);
        for (int i = 0; i < row.size; i++) {
            if (!row.isSkipped(i) && row.elements[i] != mind.howManyThere()) {
                return i;
            }
            mind.oneDay();
        }
        return NONE;
    }

    public int years(int n, int z, int what) {
        if (!within(n, 1, MOST_YEARS) || !within(what, 0, 1)) {
            return NO_SUCH;
        }
        int seed = z;
        int sum = 0;
        for (int year = 0; year < n; year++) {
            mind.become(isle);
            seed = nextSeed(seed);
            mind.sea = drawn(seed, MOST_SEA + 1);
            seed = nextSeed(seed);
            mind.birds = drawn(seed, MOST_BIRDS + 1);
            mind.goOn(DAYS_OF_A_YEAR);
            sum += what == 0 ? mind.howManyThere() : mind.birds;
        }
        return sum;
    }

    private static int nextSeed(int seed) {
        return seed * 1103515245 + 12345;
    }

    private static int drawn(int seed, int below) {
        return below <= 0 ? 0 : ((seed & 0x7fffffff) / 65536) % below;
    }

    // ---- the image, what is told

    public int image() {
        image.become(isle);
        imageTaken = true;
        return isle.day;
    }

    public int restore() {
        if (!imageTaken) {
            return NOT_AS_MUST_BE;
        }
        isle.become(image);
        return isle.day;
    }

    public int count(int what) {
        switch (what) {
            case 0: return isle.tenants;
            case 1: return isle.day;
            case 2: return isle.sea;
            case 3: return isle.birds;
            case 4: return isle.there;
            case 5: return isle.storeOfSet(isle.there);
            default: return NO_SUCH;
        }
    }

    // ---- shelves

    public int keep(int d, int what, int k, int figure) {
        if (!isShelf(d) || !within(what, 0, 1)) {
            return NO_SUCH;
        }
        if (what == 0) {
            shelves[d].clear();
            return 0;
        }
        if (!within(k, 0, KINDS - 1) || !within(figure, 0, MOST_FIGURE)) {
            return NO_SUCH;
        }
        shelves[d].holdOne(k, figure);
        return 0;
    }

    public int row(int d, int sort, int n) {
        if (!isShelf(d) || !within(sort, Shelf.BYTES, Shelf.INTS) || n > MOST_ELEMENTS) {
            return NO_SUCH;
        }
        if (n < 0) {
            return BELOW_ZERO;
        }
        shelves[d].holdRow(sort, n);
        return 0;
    }

    public int put(int d, int i, int v) {
        int refused = refusalOfRow(d);
        if (refused != 0) {
            return refused;
        }
        if (!shelves[d].hasPlace(i)) {
            return NO_PLACE;
        }
        shelves[d].elements[i] = shelves[d].lowestBits(v);
        return 0;
    }

    public long element(int d, int i) throws IllegalArgumentException, IllegalStateException {
        if (!isShelf(d)) {
            throw new IllegalArgumentException("no such shelf");
        }
        if (shelves[d].holds != Shelf.ROW) {
            throw new IllegalStateException("no row");
        }
        if (!shelves[d].hasPlace(i)) {
            throw new IllegalStateException("no such place");
        }
        return shelves[d].elements[i];
    }

    public int copy(int d, int i, int e, int j, int n) {
        if (!isShelf(d) || !isShelf(e)) {
            return NO_SUCH;
        }
        Shelf from = shelves[d];
        Shelf to = shelves[e];
        if (from.holds == Shelf.NOTHING || to.holds == Shelf.NOTHING) {
            return NOTHING_HELD;
        }
        if (from.holds != Shelf.ROW || to.holds != Shelf.ROW || from.sort != to.sort) {
            return ANOTHER_KIND;
        }
        if (!from.hasRun(i, n) || !to.hasRun(j, n)) {
            return NO_PLACE;
        }
        System.arraycopy(from.elements, i, to.elements, j, n);
        return n;
    }

    public int cost(int d) {
        int refused = refusalOfOne(d);
        if (refused != 0) {
            return refused;
        }
        return isle.kinds[shelves[d].kind].costs(shelves[d].figure);
    }

    public int toss(int d) {
        int refused = refusalOfOne(d);
        if (refused != 0) {
            return refused;
        }
        Tenant one = isle.kinds[shelves[d].kind];
        int figure = shelves[d].figure;
        try {
            one.fail(figure);
        } catch (IllegalStateException plain) {
            return figure;
        } catch (IllegalArgumentException ofBoatmen) {
            return 100 + figure;
        } catch (UnsupportedOperationException ofLawyers) {
            return 200 + one.costs(figure);
        }
        return NO_FAILURE;
    }

    private int refusalOfRow(int d) {
        return refusalUnless(d, Shelf.ROW);
    }

    private int refusalOfOne(int d) {
        return refusalUnless(d, Shelf.ONE);
    }

    /** Why SHELF d can't be taken for what is wanted; 0 if it can. */
    private int refusalUnless(int d, int wanted) {
        if (!isShelf(d)) {
            return NO_SUCH;
        }
        if (shelves[d].holds == Shelf.NOTHING) {
            return NOTHING_HELD;
        }
        return shelves[d].holds == wanted ? 0 : ANOTHER_KIND;
    }

    private boolean areTwo(int a, int b) {
        return isle.knows(a) && isle.knows(b) && a != b;
    }

    private static boolean isShelf(int d) {
        return within(d, 0, SHELVES - 1);
    }

    private static boolean within(int v, int least, int most) {
        return v >= least && v <= most;
    }

    private static boolean hasBit(int bits, int i) {
        return (bits >> i & 1) != 0;
    }

    private static long power(int base, int times) {
        long product = 1;
        for (int i = 0; i < times; i++) {
            product *= base;
        }
        return product;
    }

    /** The fraction's upper number (part 0) or its lower one. */
    private static long inLeastTerms(long above, long below, int part) {
        long divisor = below;
        long rest = above;
        // Euclid's steps for longs stay under a hundred.
        for (int step = 0; step < 1000 && rest != 0; step++) {
            long next = divisor % rest;
            divisor = rest;
            rest = next;
        }
        if (divisor == 0) {
            return part;
        }
        return part == 0 ? above / divisor : below / divisor;
    }

    /** A KIND's ways. It holds nothing: figures stand on the isle and on shelves. */
    private static class Tenant {
        static final int OWED_BY_ALL = 8;

        int catches(int figure, int sea, int day) {
            return sea;
        }

        int owes(int figure, int birds) {
            return OWED_BY_ALL;
        }

        int frightens() {
            return 0;
        }

        int costs(int figure) {
            return 3;
        }

        /** Throws this one's FAILURE; who comes back from it has none. */
        void fail(int figure) {
            if (figure != 0) {
                throw new IllegalStateException("a tenant's");
            }
        }
    }

    private static class Boatman extends Tenant {
        int catches(int figure, int sea, int day) {
            return super.catches(figure, sea, day) + figure / 3;
        }

        int owes(int figure, int birds) {
            return OWED_BY_ALL + 3;
        }

        int frightens() {
            return 1;
        }

        int costs(int figure) {
            return super.costs(figure) + figure;
        }

        void fail(int figure) {
            if (figure != 0) {
                throw new IllegalArgumentException("a boatman's");
            }
        }
    }

    private static class Baker extends Tenant {
        int catches(int figure, int sea, int day) {
            return 2;
        }

        int owes(int figure, int birds) {
            return figure >= OWED_BY_ALL ? 0 : OWED_BY_ALL - figure;
        }

        int costs(int figure) {
            return 1;
        }

        void fail(int figure) {
            // Bakers, and all under them, have none.
        }
    }

    private static class Clerk extends Tenant {
        int catches(int figure, int sea, int day) {
            return sea / 2;
        }

        int owes(int figure, int birds) {
            return OWED_BY_ALL + birds / 10;
        }

        int costs(int figure) {
            return super.costs(figure) + 2;
        }
    }

    private static class Nurse extends Baker {
        int catches(int figure, int sea, int day) {
            return super.catches(figure, sea, day) + (day % 2 == 0 ? 1 : 0);
        }

        int owes(int figure, int birds) {
            return super.owes(figure, birds) / 2;
        }

        int costs(int figure) {
            return 0;
        }
    }

    private static final class Whaler extends Boatman {
        int catches(int figure, int sea, int day) {
            return day % 3 == 0 ? 2 * super.catches(figure, sea, day) : 0;
        }

        int frightens() {
            return super.frightens() + 1;
        }

        int costs(int figure) {
            return 2 * super.costs(figure);
        }
    }

    private static final class Lawyer extends Clerk {
        int owes(int figure, int birds) {
            return super.owes(figure, birds) / 2;
        }

        int costs(int figure) {
            return super.costs(figure) + figure;
        }

        void fail(int figure) {
            if (figure != 0) {
                throw new UnsupportedOperationException("a lawyer's");
            }
        }
    }

    private static final class Child extends Nurse {
        int catches(int figure, int sea, int day) {
            return 1;
        }

        int owes(int figure, int birds) {
            return 0;
        }
    }

    /** All that THE IMAGE keeps: tenants, sea, birds and the day. */
    private static final class Isle {
        /** By their numbers. */
        final Tenant[] kinds = {new Tenant(), new Boatman(), new Baker(), new Clerk(),
            new Nurse(), new Whaler(), new Lawyer(), new Child()};
        final int[] kind = new int[MOST_TENANTS];
        final int[] figure = new int[MOST_TENANTS];
        final int[] store = new int[MOST_TENANTS];
        final int[] warnings = new int[MOST_TENANTS];
        int tenants = 0;
        /** Who is THERE, bits by tenants' numbers. */
        int there = 0;
        int birds = 40;
        int sea = 3;
        int day = 0;

        void become(Isle other) {
            System.arraycopy(other.kind, 0, kind, 0, MOST_TENANTS);
            System.arraycopy(other.figure, 0, figure, 0, MOST_TENANTS);
            System.arraycopy(other.store, 0, store, 0, MOST_TENANTS);
            System.arraycopy(other.warnings, 0, warnings, 0, MOST_TENANTS);
            tenants = other.tenants;
            there = other.there;
            birds = other.birds;
            sea = other.sea;
            day = other.day;
        }

        boolean knows(int t) {
            return t >= 0 && t < tenants;
        }

        boolean isThere(int t) {
            return hasBit(there, t);
        }

        int howManyThere() {
            return Integer.bitCount(there);
        }

        /** False if there is no room. */
        boolean takeIn(int itsKind, int itsFigure, int itsStore) {
            if (tenants >= MOST_TENANTS) {
                return false;
            }
            kind[tenants] = itsKind;
            figure[tenants] = itsFigure;
            store[tenants] = itsStore;
            warnings[tenants] = 0;
            there |= 1 << tenants;
            tenants++;
            return true;
        }

        void sendAway(int t) {
            there &= ~(1 << t);
        }

        boolean canLend(int a, int b, int fish) {
            return isThere(a) && isThere(b) && fish >= 1 && store[a] >= fish && store[b] + fish <= MOST_STORE;
        }

        void handOver(int a, int b, int fish) {
            store[a] -= fish;
            store[b] += fish;
        }

        int catchOf(int t, int onDay) {
            return kinds[kind[t]].catches(figure[t], sea, onDay);
        }

        int owedBy(int t) {
            return kinds[kind[t]].owes(figure[t], birds);
        }

        int owedBySet(int those) {
            int sum = 0;
            for (int t = 0; t < tenants; t++) {
                if (hasBit(those, t)) {
                    sum += owedBy(t);
                }
            }
            return sum;
        }

        int storeOfSet(int those) {
            int sum = 0;
            for (int t = 0; t < tenants; t++) {
                if (hasBit(those, t)) {
                    sum += store[t];
                }
            }
            return sum;
        }

        int poor() {
            int those = 0;
            for (int t = 0; t < tenants; t++) {
                if (isThere(t) && store[t] < owedBy(t)) {
                    those |= 1 << t;
                }
            }
            return those;
        }

        int richestThere() {
            int who = NONE;
            int most = -1;
            for (int t = 0; t < tenants; t++) {
                if (isThere(t) && store[t] > most) {
                    most = store[t];
                    who = t;
                }
            }
            return who;
        }

        boolean hasDaysLeft(int n) {
            return day + n <= MOST_DAY;
        }

        int daysToRent() {
            return RENT_EVERY - day % RENT_EVERY;
        }

        /** What BIRDS WANT on a RENT DAY that is like now. */
        int wants() {
            int left = sea;
            for (int t = 0; t < tenants; t++) {
                if (isThere(t)) {
                    left -= kinds[kind[t]].frightens();
                }
            }
            return Math.max(0, birds - 5 * Math.max(0, left));
        }

        void goOn(int n) {
            for (int i = 0; i < n; i++) {
                oneDay();
            }
        }

        /** Up to the end of the next RENT DAY: who (bits) was WARNED on it. */
        int goOnToRent() {
            goOn(daysToRent() - 1);
            return oneDay();
        }

        /** Who (bits) was WARNED on this DAY. */
        int oneDay() {
            day++;
            for (int t = 0; t < tenants; t++) {
                if (isThere(t)) {
                    int brought = Math.min(MOST_STORE, store[t] + catchOf(t, day));
                    store[t] = Math.max(0, brought - 1);
                }
            }
            return day % RENT_EVERY == 0 ? payRent() : 0;
        }

        private int payRent() {
            int wanted = wants();
            int warned = 0;
            for (int t = 0; t < tenants; t++) {
                if (isThere(t)) {
                    int owed = owedBy(t);
                    int laidOut = store[t] >= owed ? owed : 0;
                    int taken = Math.min(laidOut, wanted);
                    store[t] -= laidOut;
                    wanted -= taken;
                    warned |= judgePayment(t, taken == owed);
                }
            }
            birds = Math.max(0, Math.min(MOST_BIRDS, birds + sea - 3));
            return warned;
        }

        /** His bit, if he is WARNED. */
        private int judgePayment(int t, boolean settled) {
            if (settled) {
                warnings[t] = 0;
                return 0;
            }
            warnings[t]++;
            if (warnings[t] >= WARNINGS_TO_GO) {
                sendAway(t);
            }
            return 1 << t;
        }
    }

    /** One SHELF. Its elements are made once and serve every row that it ever gets. */
    private static final class Shelf {
        static final int NOTHING = 0;
        static final int ONE = 1;
        static final int ROW = 2;
        static final int BYTES = 0;
        static final int SHORTS = 1;
        static final int INTS = 2;

        int holds = NOTHING;
        int kind = 0;
        int figure = 0;
        int sort = BYTES;
        int size = 0;
        final int[] elements = new int[MOST_ELEMENTS];

        void clear() {
            holds = NOTHING;
        }

        void holdOne(int itsKind, int itsFigure) {
            holds = ONE;
            kind = itsKind;
            figure = itsFigure;
        }

        void holdRow(int itsSort, int itsSize) {
            holds = ROW;
            sort = itsSort;
            size = itsSize;
            for (int i = 0; i < MOST_ELEMENTS; i++) {
                elements[i] = 0;
            }
        }

        boolean hasPlace(int i) {
            return i >= 0 && i < size;
        }

        boolean hasRun(int from, int n) {
            return from >= 0 && n >= 0 && from <= size - n;
        }

        int lowestBits(int v) {
            switch (sort) {
                case BYTES: return (byte) v;
                case SHORTS: return (short) v;
                default: return v;
            }
        }

        /** The least number of the SORT stands for a day of which the row tells nothing. */
        boolean isSkipped(int i) {
            return elements[i] == leastOfSort();
        }

        private int leastOfSort() {
            switch (sort) {
                case BYTES: return -128;
                case SHORTS: return -32768;
                default: return 0x80000000;
            }
        }

        /** Element i; behind the end what no text has. */
        int byteAt(int i) {
            return hasPlace(i) ? elements[i] : -1;
        }
    }

    /** THE TEXT of an ISLE, read from a row of bytes. */
    private static final class Text {
        /** The place of the first byte with which no ISLE can go on; -1 if the form is right. */
        static int placeOfWrongForm(Shelf text) {
            int at = 0;
            while (at < text.size) {
                int digits = digitsBehind(text.byteAt(at));
                if (digits < 0) {
                    return at;
                }
                for (int i = at + 1; i <= at + digits; i++) {
                    if (!isDigit(text.byteAt(i))) {
                        return i;
                    }
                }
                if (text.byteAt(at + digits + 1) != ';') {
                    return at + digits + 1;
                }
                at += digits + 2;
            }
            return text.size == 0 ? 0 : -1;
        }

        /** Where the STATEMENT behind this one begins. */
        static int behindStatement(Shelf text, int at) {
            return at + digitsBehind(text.byteAt(at)) + 2;
        }

        /** Does the STATEMENT at a place on this isle; false if it is not as it must be. */
        static boolean comeTrue(Shelf text, int at, Isle isle) {
            switch (text.byteAt(at)) {
                case 't':
                    int kind = digit(text, at + 1);
                    return kind < KINDS && isle.takeIn(kind, digit(text, at + 2), number(text, at + 3));
                case 's':
                    isle.sea = digit(text, at + 1);
                    return true;
                case 'b':
                    isle.birds = number(text, at + 1);
                    return true;
                case 'f': return newStore(isle, digit(text, at + 1), number(text, at + 2));
                case 'w': return newWarnings(isle, digit(text, at + 1), digit(text, at + 2));
                case 'l': return loan(isle, digit(text, at + 1), digit(text, at + 2), number(text, at + 3));
                case 'd':
                    int n = number(text, at + 1);
                    if (n < 1 || n > DAYS_AHEAD || !isle.hasDaysLeft(n)) {
                        return false;
                    }
                    isle.goOn(n);
                    return true;
                default: return false;
            }
        }

        private static boolean newStore(Isle isle, int t, int store) {
            if (!isle.knows(t)) {
                return false;
            }
            isle.store[t] = store;
            return true;
        }

        private static boolean newWarnings(Isle isle, int t, int warnings) {
            if (!isle.knows(t) || !isle.isThere(t) || warnings >= WARNINGS_TO_GO) {
                return false;
            }
            isle.warnings[t] = warnings;
            return true;
        }

        private static boolean loan(Isle isle, int a, int b, int fish) {
            if (!isle.knows(a) || !isle.knows(b) || a == b || !isle.canLend(a, b, fish)) {
                return false;
            }
            isle.handOver(a, b, fish);
            return true;
        }

        /** How many digits stand between this letter and its ";"; -1 if no STATEMENT begins so. */
        private static int digitsBehind(int letter) {
            switch (letter) {
                case 't': return 4;
                case 's': return 1;
                case 'b': return 2;
                case 'f': return 3;
                case 'w': return 2;
                case 'l': return 4;
                case 'd': return 2;
                default: return -1;
            }
        }

        private static boolean isDigit(int sign) {
            return sign >= '0' && sign <= '9';
        }

        private static int digit(Shelf text, int at) {
            return text.byteAt(at) - '0';
        }

        private static int number(Shelf text, int at) {
            return 10 * digit(text, at) + digit(text, at + 1);
        }
    }
}
