/** Promises 9 to 13: days on. */
public final class DaysOnTest {
    public static void main(String[] args) {
        oneThen();
        allThen();
        whenOneGoes();
        whenAllAreGone();
        nextRent();
        mindLeavesTheIsle();
        Check.end();
    }

    private static void oneThen() {
        LetByTheBirds x = Check.told("t0010;t0000;s0;d05;");
        Check.due("now", x.tenantThen(0, 0, 0), 5);
        Check.due("4 days on", x.tenantThen(0, 4, 0), 1);
        Check.due("5 days on", x.tenantThen(0, 5, 0), 0);
        Check.due("no warning before", x.tenantThen(0, 4, 1), 0);
        Check.due("one on the rent day", x.tenantThen(0, 5, 1), 1);
        Check.due("two on the next", x.tenantThen(1, 15, 1), 2);
        Check.due("two then on", x.tenantThen(1, 60, 1), 2);
        Check.due("a gone one's store stays", x.tenantThen(0, 60, 0), 0);
        Check.due("n -1", x.tenantThen(0, -1, 0), -1);
        Check.due("n 61", x.tenantThen(0, 61, 0), -1);
        Check.due("what 2", x.tenantThen(0, 0, 2), -1);
        Check.due("what -1", x.tenantThen(0, 0, -1), -1);
        Check.due("no such one", x.tenantThen(2, 0, 0), -1);
        Check.due("no such one", x.tenantThen(-1, 0, 0), -1);
    }

    private static void allThen() {
        LetByTheBirds x = Check.told("t7010;t1010;t0099;s0;");
        Check.due("now", x.then(0, 0), 7);
        Check.due("19 days on", x.then(19, 0), 7);
        Check.due("20 days on", x.then(20, 0), 5);
        Check.due("birds 9 days on", x.then(9, 1), 40);
        Check.due("birds 10 days on", x.then(10, 1), 37);
        Check.due("birds 60 days on", x.then(60, 1), 22);
        Check.due("n 61", x.then(61, 0), -1);
        Check.due("n -1", x.then(-1, 0), -1);
        Check.due("what 2", x.then(1, 2), -1);
        Check.due("what -1", x.then(1, -1), -1);
    }

    private static void whenOneGoes() {
        // By sea 0 the first has 12 at first: 2 on day 10 (warned), gone on day 20.
        // The second pays 8 of 18 on day 10, is warned on day 20, gone on day 30.
        LetByTheBirds x = Check.told("t0018;t0012;t7000;t0012;s0;");
        Check.due("goes(0)", x.goes(0), 30);
        Check.due("goes(1)", x.goes(1), 20);
        Check.due("a child stays", x.goes(2), -4);
        Check.due("the first of several", x.goes(-1), 1);
        Check.due("no such one", x.goes(4), -1);
        Check.due("no such one", x.goes(-2), -1);
        x.days(25);
        Check.due("gone now", x.goes(1), 0);
        Check.due("next of those there", x.goes(-1), 0);
        Check.due("5 days more", x.goes(0), 5);
        x.days(4);
        Check.due("a day more", x.goes(0), 1);
        Check.due("and the first to go", x.goes(-1), 0);
        x.days(1);
        Check.due("none goes more", x.goes(-1), -4);
        Check.due("nobody on a new one", new LetByTheBirds().goes(-1), -4);
        // 70 fish: 70-18, -18, -18 leaves 16 on day 30; warned on days 40 and 50 by store 6.
        LetByTheBirds late = Check.told("t0070;s0;");
        Check.due("day 50", late.goes(0), 50);
        Check.due("80 fish: day 60", late.stores(0, 80) + late.goes(0), 70 + 60);
        Check.due("80 fish: he is the first", late.goes(-1), 0);
        Check.due("99 fish: day 70 is too late", late.stores(0, 99) + late.goes(0), 80 - 4);
    }

    private static void whenAllAreGone() {
        LetByTheBirds x = Check.told("t0018;t0012;s0;");
        Check.due("empty", x.empty(), 30);
        x.days(29);
        Check.due("empty", x.empty(), 1);
        x.days(1);
        Check.due("empty now", x.empty(), 0);
        Check.dueIsle(x, "t7000;", 1);
        Check.due("a child stays", x.empty(), -4);
        Check.due("a new one is empty", new LetByTheBirds().empty(), 0);
    }

    private static void nextRent() {
        // Birds want 25 of 8, 8, 8, 8: the fourth is warned; the fifth has nothing; the child owes 0.
        LetByTheBirds x = Check.told("t0010;t0010;t0010;t0010;t3000;t7000;s3;");
        Check.due("want", x.rent(0), 25);
        Check.due("warned", x.rent(1), 0b011000);
        x.days(9);
        Check.due("warned", x.rent(1), 0b011000);
        x.days(1);
        // On day 20 those two, warned a second time, are warned and gone.
        Check.due("warned again", x.rent(1), 0b011000);
        Check.due("want", x.rent(0), 25);
        x.days(10);
        Check.due("those gone are not warned", x.rent(1), 0);
        Check.due("what 2", x.rent(2), -1);
        Check.due("what -1", x.rent(-1), -1);
        Check.due("a clerk with 12 to pay 12", Check.told("t3012;s2;").rent(1), 0);
        Check.due("a clerk with 11 to pay 12", Check.told("t3011;s2;").rent(1), 1);
    }

    private static void mindLeavesTheIsle() {
        LetByTheBirds x = Check.told("t0018;t1912;t5333;w11;s1;d07;");
        String was = Check.state(x);
        x.tenantThen(0, 60, 0);
        x.then(60, 1);
        x.goes(0);
        x.goes(-1);
        x.empty();
        x.rent(0);
        x.rent(1);
        Check.dueSame("days on", Check.state(x), was);
    }
}
