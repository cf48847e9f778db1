/** Promises 25 to 30: told ledgers, years by seeds, the image, what is told. */
public final class LedgerTest {
    public static void main(String[] args) {
        forged();
        judged();
        years();
        image();
        counts();
        Check.end();
    }

    private static void forged() {
        LetByTheBirds x = Check.told("t0010;t0020;t0030;");
        Check.fill(x, 0, 0, 10, 20, 30);
        Check.due("as it is", x.forged(0), -4);
        Check.fill(x, 0, 1, 10, 20);
        Check.due("two told", x.forged(0), -4);
        Check.fill(x, 0, 2);
        Check.due("none told", x.forged(0), -4);
        Check.fill(x, 0, 0, 10, 21, 31);
        Check.due("the second", x.forged(0), 1);
        Check.fill(x, 0, 0, 11, 20, 30);
        Check.due("the first", x.forged(0), 0);
        Check.fill(x, 0, 0, 10, 20, 30, 0);
        Check.due("no such tenant", x.forged(0), 3);
        Check.fill(x, 0, 0, 10, -128, 30);
        Check.due("nothing is skipped here", x.forged(0), 1);
        Check.fill(x, 0, 2, 10, Integer.MIN_VALUE, 30);
        Check.due("nor here", x.forged(0), 1);
        Check.fill(x, 0, 0, new int[100]);
        Check.due("100 told", x.forged(0), 0);
        LetByTheBirds gone = Check.told("t1010;s0;d20;f050;");
        Check.fill(gone, 0, 0, 50);
        Check.due("a gone one's store", gone.forged(0), -4);
        Check.due("no such shelf", x.forged(-1), -1);
        Check.due("no such shelf", x.forged(8), -1);
        Check.due("nothing there", x.forged(2), -11);
        x.keep(2, 1, 0, 0);
        Check.due("one is there", x.forged(2), -12);
    }

    private static void judged() {
        // Both have too little on day 10 and day 20 (the child owes nothing).
        LetByTheBirds x = Check.told("t0000;t0000;t7000;s0;d18;");
        Check.fill(x, 0, 0, 3, 3, 1, 1);
        Check.due("as it is", x.judge(0), -4);
        Check.fill(x, 0, 0, 3, 3, 3);
        Check.due("gone on day 20", x.judge(0), 2);
        Check.fill(x, 0, 1, -32768, 3, -32768, 2);
        Check.due("skipped", x.judge(0), 3);
        Check.fill(x, 0, 2, 2);
        Check.due("now", x.judge(0), 0);
        Check.fill(x, 0, 0);
        Check.due("nothing told", x.judge(0), -4);
        Check.due("no such shelf", x.judge(-1), -1);
        Check.due("no such shelf", x.judge(8), -1);
        Check.due("nothing there", x.judge(2), -11);
        x.keep(2, 1, 0, 0);
        Check.due("one is there", x.judge(2), -12);
        String was = Check.state(x);
        x.judge(0);
        Check.dueSame("judge", Check.state(x), was);
    }

    private static void years() {
        // From seed 0 the first z is 12345, and its draw 0.
        int z1 = 12345;
        int sea = ((z1 & 0x7fffffff) / 65536) % 10;
        int z2 = z1 * 1103515245 + 12345;
        int birds = ((z2 & 0x7fffffff) / 65536) % 100;
        Check.due("the first draw is 0", sea, 0);
        LetByTheBirds x = Check.told("t7000;t7000;");
        int held = Math.max(0, birds - 3);
        Check.due("birds behind a year by sea 0", x.years(1, 0, 1), Math.max(0, held - 3));
        Check.due("children stay", x.years(1, 0, 0), 2);
        Check.due("children stay 20 years", x.years(20, -77, 0), 40);
        int two = x.years(2, 0, 1);
        Check.due("the seed goes on", two - x.years(1, 0, 1), x.years(1, z2, 1));
        LetByTheBirds told = Check.told("t7000;t0030;t1940;s9;b99;");
        int asTold = told.years(3, 5, 0);
        told.set(0, 0);
        told.set(1, 0);
        Check.due("sea and birds are drawn", told.years(3, 5, 0), asTold);
        String was = Check.state(told);
        told.years(20, 1, 1);
        Check.dueSame("years", Check.state(told), was);
        Check.due("n 0", x.years(0, 1, 0), -1);
        Check.due("n 21", x.years(21, 1, 0), -1);
        Check.due("what 2", x.years(1, 1, 2), -1);
        Check.due("what -1", x.years(1, 1, -1), -1);
    }

    private static void image() {
        LetByTheBirds x = Check.told("t0018;t1912;t5333;w11;s1;b77;d07;");
        Check.due("none yet", x.restore(), -3);
        String was = Check.state(x);
        Check.due("image", x.image(), 7);
        x.keep(2, 1, 6, 5);
        x.days(50);
        x.set(0, 8);
        x.set(1, 8);
        x.stores(0, 8);
        Check.dueIsle(x, "t0010;", 1);
        Check.due("restore", x.restore(), 7);
        Check.dueSame("restored", Check.state(x), was);
        Check.due("a shelf stays as it is", x.cost(2), 10);
        x.days(3);
        Check.due("and once more", x.restore(), 7);
        Check.dueSame("restored once more", Check.state(x), was);
        x.days(4);
        Check.due("another image", x.image(), 11);
        x.days(4);
        Check.due("is the one restored", x.restore(), 11);
        Check.due("tenants that came later", x.tenant(3, 0), -1);
        LetByTheBirds empty = new LetByTheBirds();
        Check.due("an image of nothing", empty.image(), 0);
        Check.dueIsle(empty, "t0010;d01;", 2);
        Check.due("restored", empty.restore(), 0);
        Check.due("nobody", empty.count(0), 0);
    }

    private static void counts() {
        LetByTheBirds x = Check.told("t1010;t0090;s0;d20;f050;b33;");
        int[] want = {2, 20, 0, 33, 2, 54};
        for (int what = 0; what < want.length; what++) {
            Check.due("count(" + what + ")", x.count(what), want[what]);
        }
        Check.due("count(6)", x.count(6), -1);
        Check.due("count(-1)", x.count(-1), -1);
    }
}
