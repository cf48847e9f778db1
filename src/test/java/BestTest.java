/** Promises 14 to 19: what is best. */
public final class BestTest {
    public static void main(String[] args) {
        seaThatIsBest();
        birdsThatDo();
        storeThatDoes();
        whatToLend();
        whomToSend();
        whoShouldTurn();
        ledger();
        even();
        pay();
        mindLeavesTheIsle();
        Check.end();
    }

    private static void seaThatIsBest() {
        // 20 fish: by sea 0 he pays on day 10 only and is gone on day 30;
        // by sea 1 he eats what he catches, pays twice and is gone on day 40.
        LetByTheBirds x = Check.told("t0020;");
        Check.due("20 days on", x.bestSea(20, 0), 0);
        Check.due("how many", x.bestSea(20, 1), 1);
        Check.due("30 days on", x.bestSea(30, 0), 1);
        Check.due("40 days on", x.bestSea(40, 0), 2);
        Check.due("now", x.bestSea(0, 0), 0);
        // Without birds nothing is taken by any sea.
        LetByTheBirds none = Check.told("t3000;t3000;b00;");
        Check.due("none stays by any sea", none.bestSea(20, 1), 0);
        Check.due("so the least", none.bestSea(20, 0), 0);
        Check.due("n 61", x.bestSea(61, 0), -1);
        Check.due("n -1", x.bestSea(-1, 0), -1);
        Check.due("what 2", x.bestSea(1, 2), -1);
        Check.due("what -1", x.bestSea(1, -1), -1);
        Check.due("60 days on", x.bestSea(60, 1), 1);
        // On day 10 only sea 9 gives the 8 that he owes, and one to eat.
        Check.due("sea 9", Check.told("t0000;b99;d09;f000;w01;").bestSea(1, 0), 9);
    }

    private static void birdsThatDo() {
        // Two owe 8 each; birds less 15 must be 16.
        LetByTheBirds x = Check.told("t0010;t0010;");
        Check.due("31 birds", x.leastBirds(), 31);
        x.set(0, 0);
        Check.due("they can't pay by sea 0", x.leastBirds(), -4);
        x.stores(0, 40);
        x.stores(1, 40);
        Check.due("16 birds by sea 0", x.leastBirds(), 16);
        // Clerks owe more by more birds: 75 want 75 less 45, and both owe 8 and 7.
        LetByTheBirds clerks = Check.told("t3099;t3099;s9;");
        Check.due("75 birds", clerks.leastBirds(), 75);
        Check.due("nobody", new LetByTheBirds().leastBirds(), 0);
        Check.due("a child", Check.told("t7000;").leastBirds(), 0);
        // Seven boatmen frighten all the sea: 77 birds want the 77 that they owe.
        Check.due("77 birds", Check.told("t1099;t1099;t1099;t1099;t1099;t1099;t1099;s3;").leastBirds(), 77);
        // Seven tenants frighten nothing: 99 birds want 54 of 56.
        Check.due("no birds do", Check.told("t0099;t0099;t0099;t0099;t0099;t0099;t0099;s9;").leastBirds(), -4);
    }

    private static void storeThatDoes() {
        LetByTheBirds x = Check.told("t0010;t0010;s0;d05;");
        Check.due("5 eaten, 8 owed", x.leastStore(0), 13);
        Check.due("the same", x.leastStore(1), 13);
        x.set(1, 15);
        // The first can't pay with 5 fish, so 15 are left for the second; if he pays, 7 are.
        Check.due("the second still", x.leastStore(1), 13);
        x.stores(0, 13);
        Check.due("nothing helps the second", x.leastStore(1), -4);
        Check.due("a child needs none", Check.told("t7010;").leastStore(0), 0);
        LetByTheBirds gone = Check.told("t1010;s0;d20;");
        Check.due("one gone", gone.leastStore(0), -4);
        Check.due("no such one", gone.leastStore(1), -1);
        Check.due("no such one", gone.leastStore(-1), -1);
    }

    private static void whatToLend() {
        LetByTheBirds x = Check.told("t0050;t0010;t0020;s0;");
        Check.due("8 more make 18", x.lend(0, 1), 8);
        Check.due("he needs none", x.lend(1, 0), 0);
        Check.due("of 20, 8 too", x.lend(2, 1), 8);
        x.stores(2, 7);
        Check.due("7 are too few", x.lend(2, 1), -4);
        Check.due("one twice", x.lend(1, 1), -1);
        Check.due("no such one", x.lend(0, 3), -1);
        Check.due("no such one", x.lend(-1, 0), -1);
        // 8 birds: the second can only be saved by as many as make the first poor.
        LetByTheBirds taken = Check.told("t0030;t0030;s0;b08;");
        Check.due("13 leave the first 17, less than he needs", taken.lend(0, 1), 13);
        // Of 8 birds' fish the baker lays out 2, unless he has but 1 of them.
        LetByTheBirds most = Check.told("t2699;t0000;s0;b08;d09;f099;f100;");
        Check.due("99 leave the baker too poor", most.lend(0, 1), 99);
        Check.due("one fish", Check.told("t0050;t0017;s0;").lend(0, 1), 1);
        LetByTheBirds full = Check.told("t0099;t0099;s0;b08;");
        Check.due("99 at most with them", full.lend(0, 1), -4);
        LetByTheBirds gone = Check.told("t1010;t0090;s0;d20;");
        Check.due("one is gone", gone.lend(0, 1), -3);
        Check.due("one is gone", gone.lend(1, 0), -3);
        Check.due("one twice, and gone", gone.lend(0, 0), -1);
    }

    private static void whomToSend() {
        // 18 birds by sea 0 take 8, 8 and 2, then 8 and 7: the third is gone on day 20,
        // unless one ahead of him goes now.
        LetByTheBirds x = Check.told("t0099;t0099;t0099;s0;b18;");
        Check.due("the first", x.send(20, 0), 0);
        Check.due("nothing changes by day 19", x.send(19, 0), -4);
        Check.due("now", x.send(0, 0), -4);
        LetByTheBirds one = Check.told("t7000;t0099;t0099;s0;b18;");
        Check.due("all stay", one.send(20, 0), -4);
        // Without the boatman, who frightens all the sea, the birds would want 5 less: no help.
        LetByTheBirds feared = Check.told("t1099;t0099;t0099;t0099;s1;b27;");
        Check.due("the boatman stays", feared.send(20, 0), 1);
        Check.due("n 61", x.send(61, 0), -1);
        Check.due("n -1", x.send(-1, 0), -1);
        Check.due("what 2", x.send(1, 2), -1);
        Check.due("what -1", x.send(1, -1), -1);
        // One already gone is not sent.
        LetByTheBirds gone = Check.told("t1000;t0099;t0099;t0099;s0;d20;b18;f199;f299;f399;");
        Check.due("the first of those there", gone.send(20, 0), 1);
    }

    private static void whoShouldTurn() {
        // By sea 0 both tenants, with 10, are gone on day 20; a child needs no store.
        LetByTheBirds x = Check.told("t7098;t0010;t0010;s0;");
        Check.due("the child's store to the second", x.send(20, 1), 1);
        Check.due("now", x.send(0, 1), -4);
        LetByTheBirds last = Check.told("t7000;t0099;t0010;t7050;s0;");
        Check.due("the last two", last.send(20, 1), 23);
        LetByTheBirds good = Check.told("t7000;t7099;");
        Check.due("as good as it is", good.send(60, 1), -4);
        Check.due("nobody", new LetByTheBirds().send(9, 1), -4);
        LetByTheBirds gone = Check.told("t1010;t7098;t0018;t0018;s0;d20;f099;f210;f310;w20;w30;d01;");
        // The gone one's 99 can't be changed; the child's 78 help the first of the two.
        Check.due("not with a gone one", gone.send(20, 1), 12);
    }

    private static void ledger() {
        LetByTheBirds x = Check.told("t0008;t1010;t3030;t2605;t3011;");
        Check.due("richest", x.richest(0), 2);
        x.stores(4, 30);
        Check.due("of several the least", x.richest(0), 2);
        x.stores(1, 31);
        Check.due("richest", x.richest(0), 1);
        x.stores(1, 10);
        x.stores(4, 11);
        Check.due("next", x.richest(1), 10);
        Check.due("owed", x.richest(2), 8 + 11 + 12 + 2 + 12);
        Check.due("had", x.richest(3), 8 + 10 + 30 + 5 + 11);
        Check.due("poor", x.richest(4), 0b10010);
        x.days(1);
        Check.due("next", x.richest(1), 9);
        x.days(8);
        Check.due("next", x.richest(1), 1);
        x.days(1);
        Check.due("next", x.richest(1), 10);
        Check.due("what 7", x.richest(7), -1);
        Check.due("what -1", x.richest(-1), -1);
        LetByTheBirds gone = Check.told("t1010;s0;d20;f099;t0000;t0005;");
        Check.due("a gone one is not the richest", gone.richest(0), 2);
        Check.due("owes nothing here", gone.richest(2), 16);
        Check.due("has nothing here", gone.richest(3), 5);
        Check.due("is not poor", gone.richest(4), 0b110);
        Check.due("nor even", gone.richest(5), 0);
        gone.stores(2, 16);
        Check.due("one is even", gone.richest(5), 0b100);
        LetByTheBirds nobody = Check.told("t1010;s0;d20;");
        Check.due("nobody is richest", nobody.richest(0), -4);
        Check.due("nobody's ways", nobody.richest(6), 1);
        Check.due("one with 0 is richest", Check.told("t0000;").richest(0), 0);
    }

    private static void even() {
        // Twice owed: 16 each.
        LetByTheBirds x = Check.told("t0015;t0017;t0016;t0000;");
        Check.due("the first three", x.richest(5), 0b0111);
        x.stores(1, 16);
        Check.due("two of them: 1 and 2", x.richest(5), 0b0110);
        x.stores(3, 17);
        Check.due("all four", x.richest(5), 0b1111);
        x.stores(3, 16);
        Check.due("three", x.richest(5), 0b1110);
        LetByTheBirds several = Check.told("t0020;t0013;t0013;");
        Check.due("of several of as many the least", several.richest(5), 0b011);
        Check.due("nobody is even", Check.told("t0015;").richest(5), 0);
        Check.due("a child with nothing is", Check.told("t7000;").richest(5), 1);
    }

    private static void pay() {
        LetByTheBirds x = Check.told("t0010;t0010;");
        Check.due("10 and 10", x.richest(6), 1);
        Check.dueIsle(x, "t0020;", 1);
        Check.due("20 and the two", x.richest(6), 1);
        Check.dueIsle(x, "t0020;t0020;", 1 + 1);
        // 10 10 20 20 20, 40 a side: two 20s (3 ways), or 20 and both 10s (their other sides).
        Check.due("3 ways", x.richest(6), 3);
        x.stores(0, 11);
        Check.due("an odd sum", x.richest(6), 0);
        LetByTheBirds none = Check.told("t0000;t0000;");
        Check.due("two with nothing: together or apart", none.richest(6), 2);
        Check.due("one with nothing", Check.told("t0000;").richest(6), 1);
        Check.due("one with something", Check.told("t0010;").richest(6), 0);
        Check.due("nobody", new LetByTheBirds().richest(6), 1);
        Check.due("7 with nothing", Check.told("t0000;t0000;t0000;t0000;t0000;t0000;t0000;").richest(6), 64);
        LetByTheBirds gone = Check.told("t1010;s0;d20;f020;t0020;t0020;");
        Check.due("a gone one is not on a side", gone.richest(6), 1);
    }

    private static void mindLeavesTheIsle() {
        LetByTheBirds x = Check.told("t0018;t1912;t5333;t0001;w11;s1;d07;");
        String was = Check.state(x);
        x.bestSea(60, 0);
        x.leastBirds();
        x.leastStore(0);
        x.lend(0, 3);
        x.send(60, 0);
        x.send(60, 1);
        for (int what = 0; what < 7; what++) {
            x.richest(what);
        }
        Check.dueSame("what is best", Check.state(x), was);
    }
}
