/** Promises 1 to 8: the isle as told. */
public final class IsleTest {
    public static void main(String[] args) {
        newObject();
        textComes();
        textOfWrongForm();
        textNotAsItMustBe();
        faultLeavesAllAsItWas();
        textFromOtherShelves();
        tenantTold();
        catchesOfAllKinds();
        owesOfAllKinds();
        oneComes();
        storesAndSet();
        loans();
        plainDays();
        storeIsHeld();
        rentIsTakenInTurn();
        birdsAreFrightened();
        birdsAreHeld();
        warningsAndGoing();
        daysAtTheEnd();
        Check.end();
    }

    private static void newObject() {
        LetByTheBirds x = new LetByTheBirds();
        Check.due("tenants", x.count(0), 0);
        Check.due("day", x.count(1), 0);
        Check.due("sea", x.count(2), 3);
        Check.due("birds", x.count(3), 40);
        Check.due("there", x.count(4), 0);
        Check.due("stores", x.count(5), 0);
        Check.due("tenant 0", x.tenant(0, 0), -1);
        Check.due("restore", x.restore(), -3);
        for (int d = 0; d < 8; d++) {
            Check.due("cost of an empty shelf", x.cost(d), -11);
        }
    }

    private static void textComes() {
        LetByTheBirds x = Check.told("t1920;t2012;s7;b05;f188;w01;l1022;d03;");
        Check.due("tenants", x.count(0), 2);
        Check.due("sea", x.count(2), 7);
        Check.due("birds", x.count(3), 5);
        Check.due("day", x.count(1), 3);
        Check.due("kind 0", x.tenant(0, 0), 1);
        Check.due("figure 0", x.tenant(0, 1), 9);
        Check.due("warnings 0", x.tenant(0, 3), 1);
        Check.due("kind 1", x.tenant(1, 0), 2);
        // 20 lent 22, and each of 3 days 7 and 9 by 3 caught, 1 eaten.
        Check.due("store 0", x.tenant(0, 2), 42 + 3 * 9);
        Check.due("store 1", x.tenant(1, 2), 66 + 3);
        Check.dueIsle(x, "t7999;", 1);
        Check.due("a further text adds", x.count(0), 3);
        Check.due("its store", x.tenant(2, 2), 99);
        Check.due("the text stays", x.isle(7), 1);
        Check.due("and came again", x.count(0), 4);
        Check.dueElement(x, 7, 0, "116");
        Check.dueIsle(x, "w00;", 1);
        Check.due("warnings taken back", x.tenant(0, 3), 0);
        StringBuilder longest = new StringBuilder();
        for (int i = 0; i < 33; i++) {
            longest.append("s4;");
        }
        Check.dueIsle(x, longest.toString(), 33);
        Check.dueIsle(x, longest + "s", -1100);
    }

    private static void textOfWrongForm() {
        LetByTheBirds x = new LetByTheBirds();
        Check.dueIsle(x, "", -1000);
        Check.dueIsle(x, "x", -1000);
        Check.dueIsle(x, ";", -1000);
        Check.dueIsle(x, "t", -1001);
        Check.dueIsle(x, "t0510", -1005);
        Check.dueIsle(x, "t05;", -1003);
        Check.dueIsle(x, "t05100;", -1005);
        Check.dueIsle(x, "s3", -1002);
        Check.dueIsle(x, "s33;", -1002);
        Check.dueIsle(x, "b3;", -1002);
        Check.dueIsle(x, "b333;", -1003);
        Check.dueIsle(x, "f05;", -1003);
        Check.dueIsle(x, "f0555;", -1004);
        Check.dueIsle(x, "w0;", -1002);
        Check.dueIsle(x, "w001;", -1003);
        Check.dueIsle(x, "l010;", -1004);
        Check.dueIsle(x, "l01000;", -1005);
        Check.dueIsle(x, "d1;", -1002);
        Check.dueIsle(x, "d111;", -1003);
        Check.dueIsle(x, "s3;;", -1003);
        Check.dueIsle(x, "s3;S3;", -1003);
        Check.dueIsle(x, "s/;", -1001);
        Check.dueIsle(x, "s:;", -1001);
        Check.dueIsle(x, "s-1;", -1001);
        Check.dueIsle(x, "t05 1;", -1003);
        // A wrong form is told ahead of an earlier statement that can't be.
        Check.dueIsle(x, "t9000;s3;s", -1010);
        Check.fill(x, 1, 0, 's', '3', ';', -1);
        Check.due("a byte below 0", x.isle(1), -1003);
        Check.due("nothing came", x.count(0), 0);
        Check.due("sea", x.count(2), 3);
    }

    private static void textNotAsItMustBe() {
        LetByTheBirds x = new LetByTheBirds();
        Check.dueIsle(x, "t8010;", -2000);
        Check.dueIsle(x, "s3;t9010;", -2003);
        Check.dueIsle(x, "f010;", -2000);
        Check.dueIsle(x, "t0010;f110;", -2006);
        Check.dueIsle(x, "t0010;f910;", -2006);
        Check.dueIsle(x, "w00;", -2000);
        Check.dueIsle(x, "t0010;w02;", -2006);
        Check.dueIsle(x, "t0010;w10;", -2006);
        Check.dueIsle(x, "t0010;l0001;", -2006);
        Check.dueIsle(x, "t0010;l0101;", -2006);
        Check.dueIsle(x, "t0010;l1001;", -2006);
        Check.dueIsle(x, "t0010;t0010;l0100;", -2012);
        Check.dueIsle(x, "t0010;t0010;l0111;", -2012);
        Check.dueIsle(x, "t0010;t0090;l0110;", -2012);
        Check.dueIsle(x, "d00;", -2000);
        Check.dueIsle(x, "d61;", -2000);
        Check.dueIsle(x, "d60;d60;d99;", -2008);
        Check.dueIsle(x, "t0000;t0000;t0000;t0000;t0000;t0000;t0000;t0000;", -2042);
        Check.due("nothing came", x.count(0), 0);
        Check.dueIsle(x, "t0010;t0010;l0110;", 3);
        // Nobody catches by sea 0, so both are GONE on day 20: store 10, 11 fish owed.
        LetByTheBirds gone = Check.told("t1010;t1010;s0;d20;");
        Check.due("both are gone", gone.count(4), 0);
        Check.dueIsle(gone, "w00;", -2000);
        Check.dueIsle(gone, "f022;f112;", 2);
        Check.dueIsle(gone, "l0101;", -2000);
        Check.dueIsle(gone, "t0010;l2001;", -2006);
        Check.dueIsle(gone, "t0010;l0201;", -2006);
        // In one text, too, those who went ahead of it are gone.
        Check.dueIsle(new LetByTheBirds(), "t1010;s0;d20;w00;", -2013);
    }

    private static void faultLeavesAllAsItWas() {
        LetByTheBirds x = Check.told("t0010;t3520;d04;");
        String was = Check.state(x);
        Check.dueIsle(x, "s9;b99;t7010;f050;w11;l0105;d10;t8000;", -2032);
        Check.dueSame("a text with a fault", Check.state(x), was);
        Check.dueIsle(x, "s9;b99;t7010;f050;w11;l0105;d10;t8000", -1037);
        Check.dueSame("a text of wrong form", Check.state(x), was);
    }

    private static void textFromOtherShelves() {
        LetByTheBirds x = new LetByTheBirds();
        Check.due("no such shelf", x.isle(-1), -1);
        Check.due("no such shelf", x.isle(8), -1);
        Check.due("nothing there", x.isle(0), -11);
        x.keep(0, 1, 3, 3);
        Check.due("one is there", x.isle(0), -12);
        Check.fill(x, 0, 1, 's', '3', ';');
        Check.due("shorts", x.isle(0), -12);
        Check.fill(x, 0, 2, 's', '3', ';');
        Check.due("ints", x.isle(0), -12);
        Check.fill(x, 0, 0, 's', '4', ';');
        Check.due("bytes", x.isle(0), 1);
        Check.due("sea", x.count(2), 4);
    }

    private static void tenantTold() {
        LetByTheBirds x = Check.told("t6712;w01;");
        int[] want = {6, 7, 12, 1, 1, 6, 1};
        for (int what = 0; what < want.length; what++) {
            Check.due("tenant(0, " + what + ")", x.tenant(0, what), want[what]);
        }
        Check.due("tenant(0, 7)", x.tenant(0, 7), -1);
        Check.due("tenant(0, -1)", x.tenant(0, -1), -1);
        Check.due("tenant(1, 0)", x.tenant(1, 0), -1);
        Check.due("tenant(-1, 0)", x.tenant(-1, 0), -1);
        LetByTheBirds gone = Check.told("t1010;s0;d20;");
        int[] wantGone = {1, 0, 0, 2, 0, 11, 0};
        for (int what = 0; what < wantGone.length; what++) {
            Check.due("gone: tenant(0, " + what + ")", gone.tenant(0, what), wantGone[what]);
        }
        Check.due("a gone one is still counted", gone.count(0), 1);
    }

    private static void catchesOfAllKinds() {
        // Sea 7, figure 8; on the days 1, 2 .. 6.
        int[][] want = {
            {7, 7, 7, 7, 7, 7}, {9, 9, 9, 9, 9, 9}, {2, 2, 2, 2, 2, 2}, {3, 3, 3, 3, 3, 3},
            {2, 3, 2, 3, 2, 3}, {0, 0, 18, 0, 0, 18}, {3, 3, 3, 3, 3, 3}, {1, 1, 1, 1, 1, 1}};
        for (int k = 0; k < 8; k++) {
            LetByTheBirds x = Check.told("s7;t" + k + "810;");
            for (int day = 1; day <= 6; day++) {
                Check.due("kind " + k + " on day " + day, x.tenant(0, 6), want[k][day - 1]);
                x.days(1);
            }
        }
    }

    private static void owesOfAllKinds() {
        int[][] figureBirdsAndWant = {
            {0, 0, 8, 11, 8, 8, 4, 11, 4, 0}, {3, 19, 8, 11, 5, 9, 2, 11, 4, 0},
            {8, 20, 8, 11, 0, 10, 0, 11, 5, 0}, {9, 99, 8, 11, 0, 17, 0, 11, 8, 0}};
        for (int[] row : figureBirdsAndWant) {
            LetByTheBirds x = new LetByTheBirds();
            x.set(1, row[1]);
            for (int k = 0; k < 7; k++) {
                Check.dueIsle(x, "t" + k + row[0] + "00;", 1);
                Check.due("kind " + k + " owes by birds " + row[1], x.tenant(k, 5), row[k + 2]);
            }
        }
        Check.due("a child owes", Check.told("t7900;").tenant(0, 5), 0);
    }

    private static void oneComes() {
        LetByTheBirds x = new LetByTheBirds();
        Check.due("no such shelf", x.comes(-1, 5), -1);
        Check.due("no such shelf", x.comes(8, 5), -1);
        Check.due("nothing there, store out of range", x.comes(0, 100), -1);
        Check.due("nothing there", x.comes(0, 5), -11);
        x.row(0, 0, 4);
        Check.due("a row, store out of range", x.comes(0, -1), -1);
        Check.due("a row", x.comes(0, 5), -12);
        x.keep(0, 1, 5, 6);
        Check.due("store below 0", x.comes(0, -1), -1);
        Check.due("store above 99", x.comes(0, 100), -1);
        for (int t = 0; t < 7; t++) {
            Check.due("comes", x.comes(0, t == 0 ? 0 : 93 + t), t);
        }
        Check.due("no room", x.comes(0, 5), -2);
        Check.due("no room, but first no such store", x.comes(0, 100), -1);
        Check.due("no room, but first nothing there", x.comes(1, 10), -11);
        Check.due("no room, but first a row", x.row(2, 0, 1) + x.comes(2, 10), -12);
        Check.due("kind", x.tenant(6, 0), 5);
        Check.due("figure", x.tenant(6, 1), 6);
        Check.due("store", x.tenant(6, 2), 99);
        Check.due("warnings", x.tenant(6, 3), 0);
        Check.due("there", x.count(4), 127);
        Check.due("the shelf keeps it", x.cost(0), 18);
    }

    private static void storesAndSet() {
        LetByTheBirds x = Check.told("t0010;");
        Check.due("stores", x.stores(0, 99), 10);
        Check.due("stores", x.stores(0, 0), 99);
        Check.due("stores, the old", x.stores(0, 4), 0);
        Check.due("stores below 0", x.stores(0, -1), -1);
        Check.due("stores above 99", x.stores(0, 100), -1);
        Check.due("stores of no one", x.stores(1, 4), -1);
        Check.due("stores of no one", x.stores(-1, 4), -1);
        Check.due("the store", x.tenant(0, 2), 4);
        Check.due("sea", x.set(0, 9), 3);
        Check.due("sea", x.set(0, 0), 9);
        Check.due("sea out of range", x.set(0, 10), -1);
        Check.due("sea out of range", x.set(0, -1), -1);
        Check.due("birds", x.set(1, 99), 40);
        Check.due("birds", x.set(1, 0), 99);
        Check.due("birds out of range", x.set(1, 100), -1);
        Check.due("birds out of range", x.set(1, -1), -1);
        Check.due("what out of range", x.set(2, 1), -1);
        Check.due("what out of range", x.set(-1, 1), -1);
        Check.due("sea is", x.count(2), 0);
        Check.due("birds are", x.count(3), 0);
        LetByTheBirds gone = Check.told("t1010;s0;d20;");
        Check.due("a gone one's store", gone.stores(0, 7), 0);
        Check.due("is as told", gone.tenant(0, 2), 7);
    }

    private static void loans() {
        LetByTheBirds x = Check.told("t0010;t0094;t1000;");
        Check.due("lends", x.lends(0, 1, 5), 5);
        Check.due("the other has", x.tenant(1, 2), 99);
        Check.due("beyond 99", x.lends(0, 1, 1), -3);
        Check.due("more than he has", x.lends(0, 2, 6), -3);
        Check.due("all that he has", x.lends(0, 2, 5), 0);
        Check.due("all 99", x.lends(1, 0, 99), 0);
        Check.due("no fish", x.lends(0, 1, 0), -1);
        Check.due("100 fish", x.lends(0, 1, 100), -1);
        Check.due("one twice", x.lends(1, 1, 1), -1);
        Check.due("no such one", x.lends(0, 3, 1), -1);
        Check.due("no such one", x.lends(3, 0, 1), -1);
        Check.due("no such one", x.lends(-1, 0, 1), -1);
        LetByTheBirds gone = Check.told("t1010;t0090;s0;d20;f050;");
        Check.due("one is gone", gone.count(4), 2);
        Check.due("to a gone one", gone.lends(1, 0, 1), -3);
        Check.due("from a gone one", gone.lends(0, 1, 1), -3);
        Check.due("store stays", gone.tenant(0, 2), 50);
    }

    private static void plainDays() {
        LetByTheBirds x = Check.told("t0010;t7000;");
        Check.due("days 0", x.days(0), -1);
        Check.due("days 61", x.days(61), -1);
        Check.due("days -1", x.days(-1), -1);
        Check.due("no day went", x.count(1), 0);
        Check.due("9 days", x.days(9), 2);
        Check.due("day", x.count(1), 9);
        Check.due("store", x.tenant(0, 2), 28);
        Check.due("a child eats what it catches", x.tenant(1, 2), 0);
        Check.due("birds before the rent day", x.count(3), 40);
        Check.due("60 days", x.days(60), 2);
        Check.due("day", x.count(1), 69);
    }

    private static void storeIsHeld() {
        LetByTheBirds x = Check.told("t1999;t0098;t3000;s9;d01;");
        Check.due("99 at most, then he eats", x.tenant(0, 2), 98);
        Check.due("the same", x.tenant(1, 2), 98);
        Check.due("a clerk's 4 less 1", x.tenant(2, 2), 3);
        x.set(0, 0);
        x.stores(2, 1);
        x.days(2);
        Check.due("0 at least", x.tenant(2, 2), 0);
    }

    private static void rentIsTakenInTurn() {
        // Sea 3: birds want 40 less 15. Owed are 8, 8, 8, 8, 0; 25 are wanted: 8, 8, 8, and 1 of 8.
        LetByTheBirds x = Check.told("t0010;t0010;t0010;t0010;t7010;t2850;w01;w31;w51;d10;");
        int[] stores = {22, 22, 22, 22, 10, 60};
        int[] warnings = {0, 0, 0, 2, 0, 0};
        for (int t = 0; t < 6; t++) {
            Check.due("store " + t, x.tenant(t, 2), stores[t]);
            Check.due("warnings " + t, x.tenant(t, 3), warnings[t]);
        }
        Check.due("who is left", x.count(4), 0b110111);
        // Who has not what he owes lays out nothing, and the next one's is taken.
        LetByTheBirds poor = Check.told("t0000;t0020;b08;s0;d10;");
        Check.due("the poor one keeps his", poor.tenant(0, 2), 0);
        Check.due("and is warned", poor.tenant(0, 3), 1);
        Check.due("the other pays", poor.tenant(1, 2), 2);
        Check.due("and is not", poor.tenant(1, 3), 0);
        // 17 caught by none: 17 less 10 is 7, one fewer than owed.
        LetByTheBirds close = Check.told("t0017;t0018;s0;d10;");
        Check.due("7 of 8", close.tenant(0, 2), 7);
        Check.due("8 of 8", close.tenant(1, 2), 0);
        Check.due("warned", close.tenant(0, 3), 1);
        Check.due("not warned", close.tenant(1, 3), 0);
    }

    private static void birdsAreFrightened() {
        // Sea 4, a boatman and a whaler frighten 3 of it: birds want 40 less 5.
        LetByTheBirds x = Check.told("t1050;t5050;s4;");
        Check.due("want", x.rent(0), 35);
        x.set(0, 2);
        Check.due("no more than all the sea", x.rent(0), 40);
        x.set(0, 9);
        Check.due("want", x.rent(0), 10);
        x.set(1, 29);
        Check.due("0 at least", x.rent(0), 0);
        // One who is gone frightens no more.
        LetByTheBirds gone = Check.told("t5000;t0099;s0;d20;");
        Check.due("the whaler is gone", gone.count(4), 2);
        gone.set(0, 3);
        gone.set(1, 40);
        Check.due("want", gone.rent(0), 25);
    }

    private static void birdsAreHeld() {
        LetByTheBirds x = Check.told("s9;b98;");
        x.days(9);
        Check.due("no rent day yet", x.count(3), 98);
        x.days(1);
        Check.due("99 at most", x.count(3), 99);
        x.set(0, 0);
        x.set(1, 2);
        x.days(10);
        Check.due("0 at least", x.count(3), 0);
        x.set(0, 4);
        x.set(1, 50);
        x.days(10);
        Check.due("sea more, 3 less", x.count(3), 51);
    }

    private static void warningsAndGoing() {
        // On the first rent day the birds want nothing by sea 9, on the second the sea is 0.
        LetByTheBirds x = Check.told("t0010;s9;d10;");
        Check.due("what was not taken is lost", x.tenant(0, 2), 82);
        Check.due("he is warned", x.tenant(0, 3), 1);
        x.set(0, 0);
        x.days(10);
        Check.due("paid, no warning", x.tenant(0, 3), 0);
        Check.due("there", x.tenant(0, 4), 1);
        x.stores(0, 0);
        Check.due("still there", x.days(10), 1);
        Check.due("then gone", x.days(10), 0);
        Check.due("two warnings", x.tenant(0, 3), 2);
        x.stores(0, 50);
        x.set(0, 9);
        x.days(20);
        Check.due("a gone one's store stays", x.tenant(0, 2), 50);
        Check.due("and his warnings", x.tenant(0, 3), 2);
        Check.due("stores of those there", x.count(5), 0);
    }

    private static void daysAtTheEnd() {
        LetByTheBirds x = Check.told("t7000;");
        for (int i = 0; i < 16; i++) {
            x.days(60);
        }
        Check.due("day", x.count(1), 960);
        Check.due("beyond 999", x.days(40), -3);
        Check.due("out of range first", x.days(61), -1);
        Check.dueIsle(x, "d40;", -2000);
        Check.dueIsle(x, "d30;d10;", -2004);
        Check.due("day", x.count(1), 960);
        Check.due("up to 999", x.days(39), 1);
        Check.due("day", x.count(1), 999);
        Check.due("no more", x.days(1), -3);
        Check.due("in mind it goes on", x.then(60, 0), 1);
        Check.due("the next rent day", x.richest(1), 1);
    }
}
