/** Promises 14 to 19, what is best: a test for each sentence that names a bound, on both sides of it. */
public final class BestEdgesTest {
    /** Day 9 of a bad sea: one fish is eaten, then the rent is due. */
    private static final String EVE = "s0;d09;";

    public static void main(String[] args) {
        bestSeaOfSeveralTheLeast();
        bestSeaBehind0To60();
        leastBirds0To99();
        leastBirdsNone();
        leastStoreFrom0();
        leastStoreNone();
        lendFrom1To99();
        lendNothingOrNone();
        lendALoanThatCanBe();
        lendRefused();
        sendMoreThanAsItIs();
        sendOfSeveralTheLeast();
        sendBehind0To60();
        turnMoreThanAsItIs();
        turnOfSeveralTheFirst();
        turnOfThoseThere();
        richestOfSeveral();
        nextFrom1To10();
        ledgerOfThoseThere();
        poorByOneFish();
        evenByOneFish();
        evenOfSeveralTheLeast();
        payBothAsMuch();
        payOfNobody();
        whatOutOfRange();
        Check.end();
    }

    /** "BEST SEA: the SEA by which most are THERE ..., of several the least; how many." */
    private static void bestSeaOfSeveralTheLeast() {
        Scene eve = Scene.isle("b99;d09;t0000;w01;");
        // Caught, one eaten, 8 to pay: sea 9 by store 0, 8 by 1, .., 0 by 9.
        for (int store = 0; store <= 9; store++) {
            eve.with("stores(0, " + store + ")").asks("bestSea(1, 0)", 9 - store).asks("bestSea(1, 1)", 1);
        }
        // A boatman with 3 has his 11 by sea 9; with 2 he would by sea 10, which there is not.
        Scene boatman = Scene.isle("b99;d09;t1003;w01;");
        boatman.asks("bestSea(1, 0)", 9).asks("bestSea(1, 1)", 1);
        boatman.with("stores(0, 2)").asks("bestSea(1, 0)", 0).asks("bestSea(1, 1)", 0);
        Scene.isle("t7000;t7000;").asks("bestSea(60, 0)", 0).asks("bestSea(60, 1)", 2);
        Scene.fresh().asks("bestSea(60, 0)", 0).asks("bestSea(60, 1)", 0);
        // By 0 birds nothing is wanted by any sea: all are warned.
        Scene.isle("b00;d09;t0050;w01;").asks("bestSea(1, 0)", 0).asks("bestSea(1, 1)", 0);
    }

    /** "behind n DAYS (0 .. 60)". */
    private static void bestSeaBehind0To60() {
        Scene eve = Scene.isle("b99;d09;t0000;w01;");
        eve.asks("bestSea(0, 0)", 0).asks("bestSea(0, 1)", 1).asks("bestSea(1, 0)", 9);
        eve.refused("bestSea(-1, 0)", -1).refused("bestSea(61, 0)", -1);
        eve.refused("bestSea(-1, 1)", -1).refused("bestSea(61, 1)", -1);
        // From day 10 on: by sea 0 one with 76 fish is gone on day 70, by sea 1 he is not.
        Scene day10 = Scene.isle("s0;d10;t0076;b40;");
        day10.asks("bestSea(59, 0)", 0).asks("bestSea(60, 0)", 1).asks("bestSea(60, 1)", 1);
    }

    /** "LEAST BIRDS: the least BIRDS (0 .. 99) now with which nobody is WARNED on the next RENT DAY". */
    private static void leastBirds0To99() {
        Scene.fresh().asks("leastBirds()", 0);
        Scene.isle("t7000;t2800;").asks("leastBirds()", 0);
        Scene.isle(EVE + "t2700;").asks("leastBirds()", 1);
        Scene.isle(EVE + "t0050;").asks("leastBirds()", 8);
        // By sea 9 the 99 birds want 54: six by 8 and a baker's 6.
        Scene.isle("s9;t0099;t0099;t0099;t0099;t0099;t0099;t2299;").asks("leastBirds()", 99);
        // BIRDS now do not count.
        Scene.isle(EVE + "t0050;b99;").asks("leastBirds()", 8);
    }

    /** "-4". */
    private static void leastBirdsNone() {
        Scene.isle("s9;t0099;t0099;t0099;t0099;t0099;t0099;t2199;").asks("leastBirds()", -4);
        Scene.isle(EVE + "t0008;").asks("leastBirds()", -4);
        Scene.isle(EVE + "t0009;").asks("leastBirds()", 8);
        // Who is GONE is not warned.
        Scene.isle("t0000;s0;d20;").asks("leastBirds()", 0);
    }

    /** "LEAST STORE: the least STORE (0 .. 99) now with which one is not WARNED on the next RENT DAY". */
    private static void leastStoreFrom0() {
        Scene eve = Scene.isle(EVE + "t0050;t1050;t7050;t2750;b40;");
        eve.asks("leastStore(0)", 9).asks("leastStore(1)", 12).asks("leastStore(2)", 0).asks("leastStore(3)", 0);
        eve.with("stores(0, 9)").asks("rent(1)", 0);
        eve.with("stores(0, 8)").asks("rent(1)", 1);
        Scene.isle("s0;t0000;").asks("leastStore(0)", 18);
        Scene.isle("s0;t0000;d01;").asks("leastStore(0)", 17);
        Scene.isle("s0;t0000;d10;").asks("leastStore(0)", 18);
        Scene.isle("s0;b99;t3000;").asks("leastStore(0)", 27);
    }

    /** "-4 (GONE, too). -1." */
    private static void leastStoreNone() {
        Scene.isle(EVE + "t0050;b08;").asks("leastStore(0)", 9);
        Scene.isle(EVE + "t0050;b07;").asks("leastStore(0)", -4);
        Scene gone = Scene.isle("t7000;t0000;s0;d20;f150;");
        gone.asks("leastStore(1)", -4).asks("leastStore(0)", 0);
        gone.refused("leastStore(2)", -1).refused("leastStore(-1)", -1).refused("leastStore(7)", -1);
        Scene.fresh().refused("leastStore(0)", -1);
    }

    /** "LEND: the fewest fish (1 .. 99) one must lend to another one now". */
    private static void lendFrom1To99() {
        Scene eve = Scene.isle(EVE + "t0050;t0008;");
        eve.asks("lend(0, 1)", 1);
        eve.with("stores(1, 0)").asks("lend(0, 1)", 9);
        // The baker lays out his 2 of the 8 wanted, unless he has lent all 99 and but 1 is caught and left.
        Scene most = Scene.isle(EVE + "t2699;t0000;");
        most.comesTrue("b08;").asks("lend(0, 1)", 99);
        most.comesTrue("b08;f098;").asks("lend(0, 1)", 98);
        most.comesTrue("b10;").asks("lend(0, 1)", 9);
    }

    /** "so that the other is not WARNED on the next RENT DAY; 0 he is not; -4". */
    private static void lendNothingOrNone() {
        Scene.isle(EVE + "t0050;t0009;").asks("lend(0, 1)", 0).asks("lend(1, 0)", 0);
        Scene.isle(EVE + "t0000;t7000;").asks("lend(0, 1)", 0).asks("lend(1, 0)", -4);
        // By 0 birds no loan helps.
        Scene.isle(EVE + "b00;t0050;t0020;").asks("lend(0, 1)", -4).asks("lend(1, 0)", -4);
        // By 8 the first is paid from, and the second is not until the first is too poor.
        Scene.isle(EVE + "b08;t0030;t0030;").asks("lend(0, 1)", 22).asks("lend(1, 0)", 0);
    }

    /** "(a loan that can be)": the first has so many, the second 99 at most with them. */
    private static void lendALoanThatCanBe() {
        Scene.isle(EVE + "t0005;t0004;b99;").asks("lend(0, 1)", 5);
        Scene.isle(EVE + "t0004;t0004;b99;").asks("lend(0, 1)", -4);
        Scene.isle(EVE + "t0000;t0004;b99;").asks("lend(0, 1)", -4);
        Scene.isle(EVE + "b08;t0030;t0077;").asks("lend(0, 1)", 22);
        Scene.isle(EVE + "b08;t0030;t0078;").asks("lend(0, 1)", -4);
        Scene.isle(EVE + "b08;t0030;t0099;").asks("lend(0, 1)", -4);
    }

    /** "-1 (one twice), -3 either is GONE." */
    private static void lendRefused() {
        Scene gone = Scene.isle("t0000;t7000;t0000;s0;d20;t7000;");
        gone.refused("lend(0, 1)", -3).refused("lend(1, 0)", -3).refused("lend(0, 2)", -3).asks("lend(1, 3)", 0);
        gone.refused("lend(1, 1)", -1).refused("lend(0, 0)", -1);
        gone.refused("lend(1, 4)", -1).refused("lend(4, 1)", -1).refused("lend(-1, 1)", -1).refused("lend(1, -1)", -1);
        gone.refused("lend(0, 4)", -1).refused("lend(4, 0)", -1).refused("lend(0, -1)", -1);
    }

    /** 18 birds by sea 0 take 8, 8 and 2 on day 10, then 8 and 7: the third is gone on day 20. */
    private static Scene three() {
        return Scene.isle("t0099;t0099;t0099;s0;b18;");
    }

    /** "SEND: whom ... so that most others are THERE ..., more than as it is (him not counted)". */
    private static void sendMoreThanAsItIs() {
        // With him two are THERE, without him two others: he is not counted, so that is one more.
        three().asks("then(20, 0)", 3).asks("send(20, 0)", 0);
        three().asks("send(19, 0)", -4);
        // As many others as it is: who is GONE then anyway, or takes from nobody.
        Scene.isle("t0000;t7000;s0;").asks("send(20, 0)", -4);
        Scene.isle("t7000;t7000;").asks("send(60, 0)", -4);
        // The poor one is GONE anyway and nobody has more by it; of the others the least is sent.
        Scene.isle("t0000;t0099;t0099;t0099;s0;b18;").asks("send(20, 0)", 1);
        // By the first's going three others are THERE, by the boatman's four: most count ahead of the least.
        Scene.isle("t4099;t1099;t4099;t4099;t0099;s0;b20;").asks("then(20, 0)", 7).asks("send(20, 0)", 1);
        Scene.fresh().asks("send(20, 0)", -4);
    }

    /** "of several the least; -4": of those THERE. */
    private static void sendOfSeveralTheLeast() {
        three().asks("send(20, 0)", 0);
        Scene.isle("t7000;t0099;t0099;t0099;s0;b18;").asks("send(20, 0)", 1);
        Scene gone = Scene.isle("t0000;t7000;s0;d20;t0099;t0099;t0099;b18;");
        gone.asks("count(4)", 30).asks("send(20, 0)", 2);
    }

    /** "behind n DAYS (0 .. 60)", of SEND and of TURN. */
    private static void sendBehind0To60() {
        for (int what = 0; what <= 1; what++) {
            three().asks("send(0, " + what + ")", -4).asks("send(60, " + what + ")", -4);
            three().refused("send(-1, " + what + ")", -1).refused("send(61, " + what + ")", -1);
        }
        // From day 10 on: one with 76 fish by sea 0 is gone on day 70, with the child's 99 he is not.
        Scene late = Scene.isle("s0;d10;t7099;t0076;b40;");
        late.asks("send(59, 1)", -4).asks("send(60, 1)", 1);
        // On day 60 the 11 birds take 8 from the first and 3 from the second, who is warned once already.
        Scene last = Scene.isle("s0;d50;t0050;t0050;b11;w11;d09;");
        last.asks("send(0, 0)", -4).asks("send(1, 0)", 0);
        // By sea 3 the birds stay 31 and want 16, two by 8, not three: the third is gone on day 20, 11 on.
        Scene far = Scene.isle("d09;t0099;t0099;t0099;b31;");
        far.asks("send(10, 0)", -4).asks("send(11, 0)", 0).asks("send(60, 0)", 0);
    }

    /** "TURN: the two TENANTS THERE ... who ... make most THERE behind n DAYS ..., more than as it is". */
    private static void turnMoreThanAsItIs() {
        Scene eve = Scene.isle(EVE + "b40;t7009;t0008;w11;");
        eve.asks("send(1, 1)", 1).asks("send(0, 1)", -4);
        eve.with("stores(0, 8)").asks("send(1, 1)", -4);
        eve.with("stores(1, 9)").asks("send(1, 1)", -4);
        Scene.isle("t7000;t7099;").asks("send(60, 1)", -4);
        Scene.isle("t0000;").asks("send(60, 1)", -4);
        Scene.fresh().asks("send(60, 1)", -4);
    }

    /** "(10 the lesser and the other) ... of several the first". */
    private static void turnOfSeveralTheFirst() {
        Scene.isle(EVE + "b40;t7009;t7009;t0000;t0000;w21;w31;").asks("send(1, 1)", 2);
        Scene.isle(EVE + "b40;t7000;t7009;t0000;t0000;w21;w31;").asks("send(1, 1)", 12);
        Scene.isle(EVE + "b40;t0000;t0000;t7009;w01;w11;").asks("send(1, 1)", 2);
        Scene.isle(EVE + "b40;t7000;t7000;t7000;t7000;t7000;t7009;t0000;w61;").asks("send(1, 1)", 56);
        Scene.isle(EVE + "b40;t7008;t7012;t7000;t1000;w31;").asks("send(1, 1)", 13);
        // Most count ahead of the first: a boatman with the child's 9 lays out nothing and leaves the last one's 8
        // to the birds; with the poor one's 0 he does too, and the poor one has what he owes.
        Scene.isle(EVE + "b16;t1012;t7009;t0000;t0050;w21;w31;").asks("then(1, 0)", 3).asks("send(1, 1)", 2);
    }

    /** TURN is of TENANTS THERE: one GONE has nothing to change. */
    private static void turnOfThoseThere() {
        Scene gone = Scene.isle("t0000;s0;d20;f099;t0000;w11;d09;b40;");
        gone.asks("count(4)", 2).asks("send(1, 1)", -4);
        gone.comesTrue("t7009;").asks("send(1, 1)", 12);
    }

    /** "RICHEST by STORE of those THERE, of several the least; -4." */
    private static void richestOfSeveral() {
        Scene.isle("t0010;t0011;t0011;t0010;").asks("richest(0)", 1);
        Scene.isle("t0011;t0011;").asks("richest(0)", 0);
        Scene.isle("t0000;t0000;").asks("richest(0)", 0);
        Scene.isle("t0098;t0099;").asks("richest(0)", 1);
        Scene.isle("t0000;t7000;s0;d20;f099;").asks("richest(0)", 1);
        Scene.isle("t0000;s0;d20;f099;").asks("richest(0)", -4);
        Scene.fresh().asks("richest(0)", -4);
    }

    /** "NEXT: how many DAYS it is to the next RENT DAY (1 .. 10)." */
    private static void nextFrom1To10() {
        Scene.fresh().asks("richest(1)", 10);
        for (int day = 1; day <= 20; day++) {
            int want = day < 10 ? 10 - day : day < 20 ? 20 - day : 10;
            Scene.fresh().with("days(" + day + ")").asks("richest(1)", want);
        }
    }

    /** "LEDGER: what all THERE OWE now; what they have". */
    private static void ledgerOfThoseThere() {
        Scene.fresh().asks("richest(2)", 0).asks("richest(3)", 0).asks("richest(4)", 0);
        Scene gone = Scene.isle("t0000;t7000;s0;d20;f099;");
        gone.asks("richest(2)", 0).asks("richest(3)", 0).asks("richest(4)", 0);
        gone.comesTrue("t0005;").asks("richest(2)", 8).asks("richest(3)", 5).asks("richest(4)", 4);
        Scene most = Scene.isle("b99;t3999;t3999;t3999;t3999;t3999;t3999;t3999;");
        most.asks("richest(2)", 119).asks("richest(3)", 693).asks("richest(4)", 0).asks("count(5)", 693);
    }

    /** "POOR: those THERE (bits) who have less than they OWE." */
    private static void poorByOneFish() {
        Scene.isle("t0007;t0008;t1010;t1011;t7000;t0009;t0000;").asks("richest(4)", 0b1000101);
    }

    /** "whose STORES together are twice as much as they OWE together, or more". */
    private static void evenByOneFish() {
        Scene.isle("t0015;").asks("richest(5)", 0);
        Scene.isle("t0016;").asks("richest(5)", 1);
        Scene.isle("t0017;").asks("richest(5)", 1);
        Scene.isle("t0031;t0001;").asks("richest(5)", 3);
        Scene.isle("t0030;t0001;").asks("richest(5)", 1);
        Scene.isle("t7000;").asks("richest(5)", 1);
        Scene.isle("t0000;s0;d20;f099;").asks("richest(5)", 0);
        Scene.fresh().asks("richest(5)", 0);
        Scene.isle("t0099;t0013;t0000;t0000;t0000;t0000;t0000;").asks("richest(5)", 0b1111111);
        Scene.isle("t0099;t0012;t0000;t0000;t0000;t0000;t0000;").asks("richest(5)", 0b0111111);
    }

    /** "the greatest set ... (bits, of several of as many the least)". */
    private static void evenOfSeveralTheLeast() {
        Scene.isle("t0000;t0016;t0016;").asks("richest(5)", 0b110);
        Scene.isle("t0000;t0032;t0000;").asks("richest(5)", 0b011);
        Scene.isle("t0016;t0000;t0000;").asks("richest(5)", 0b001);
        Scene.isle("t0000;t0000;t0016;").asks("richest(5)", 0b100);
    }

    /** "PAY: in how many ways ... both have as much STORE (a way and its other one are one ...)". */
    private static void payBothAsMuch() {
        Scene.isle("t0010;t0010;").asks("richest(6)", 1);
        Scene.isle("t0010;t0011;").asks("richest(6)", 0);
        Scene.isle("t0010;t0012;").asks("richest(6)", 0);
        Scene.isle("t0010;t0010;t0020;").asks("richest(6)", 1);
        Scene.isle("t0010;t0010;t0010;t0010;").asks("richest(6)", 3);
        Scene.isle("t0001;").asks("richest(6)", 0);
        Scene.isle("t0000;").asks("richest(6)", 1);
        Scene.isle("t0000;t0000;").asks("richest(6)", 2);
        Scene.isle("t0010;t0010;t0000;").asks("richest(6)", 2);
        Scene.isle("t0099;t0099;t0099;t0099;t0099;t0099;t0099;").asks("richest(6)", 0);
        Scene.isle("t0000;t0000;t0000;t0000;t0000;t0000;t0000;").asks("richest(6)", 64);
    }

    /** "(... nobody: 1)". */
    private static void payOfNobody() {
        Scene.fresh().asks("richest(6)", 1);
        Scene.isle("t0000;s0;d20;f099;").asks("richest(6)", 1);
        Scene.isle("t0000;s0;d20;f010;t0010;").asks("richest(6)", 0);
    }

    private static void whatOutOfRange() {
        three().refused("bestSea(0, -1)", -1).refused("bestSea(0, 2)", -1);
        three().refused("send(0, -1)", -1).refused("send(0, 2)", -1);
        three().refused("richest(-1)", -1).refused("richest(7)", -1);
    }
}
