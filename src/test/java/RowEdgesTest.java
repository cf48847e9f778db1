/** Promises 20 to 27, told rows, two, storms, shares, years: a test for each sentence that names a bound. */
public final class RowEdgesTest {
    private static final String EVE = "s0;d09;";
    private static final int[] LEAST = {-128, -32768, Integer.MIN_VALUE};
    private static final long REFUSED = 1000000001L;

    public static void main(String[] args) {
        kindsFrom0To7();
        figuresFrom0To9();
        emptyRowsTellNothing();
        leastOfTheSortIsSkipped();
        nextToTheLeastIsNot();
        rowsUpTo99DaysOn();
        whatIsRefused();
        seasFrom0To9();
        seasOfThoseThere();
        whichSeaRefused();
        twoGiveHalfCut();
        twoBehind1To60();
        twoCountAllGone();
        twoFirstPairOrNone();
        twoRefused();
        stormsOn0To7Days();
        stormsOdds2To20();
        stormsStore0To99();
        stormsInLeastTerms();
        stormsRefused();
        sharesInLeastTerms();
        sharesOfNothing();
        shareRefused();
        forgedFirst();
        forgedNoSuchTenant();
        forgedSkipsNothing();
        judgedFirst();
        judgedDays();
        toldRowsRefused();
        yearsFrom1To20();
        drawsKeepAnInt();
        drawsAtTheEnds();
        yearsRefused();
        Check.end();
    }

    /** "KINDS (bits) of him by which all of it is so". */
    private static void kindsFrom0To7() {
        Scene one = Scene.isle("t0620;s4;");
        one.holdsRow(0, 0, 20, 23, 26).asks("whatIs(0, 0, 0)", 1);
        one.holdsRow(0, 0, 20, 20).asks("whatIs(0, 0, 0)", 128);
        one.holdsRow(0, 0, 20).asks("whatIs(0, 0, 0)", 255);
        one.holdsRow(0, 0, 19).asks("whatIs(0, 0, 0)", 0);
        one.holdsRow(0, 0, 21).asks("whatIs(0, 0, 0)", 0);
        // All of it: right on days 0 and 1, wrong on day 2.
        one.holdsRow(0, 0, 20, 23, 27).asks("whatIs(0, 0, 0)", 0);
        // One GONE is by any kind as he was.
        Scene gone = Scene.isle("t0000;s0;d20;f099;");
        gone.holdsRow(0, 0, 99, 99).asks("whatIs(0, 0, 0)", 255).asks("whatIs(0, 0, 1)", 1023);
        gone.holdsRow(0, 0, 99, 98).asks("whatIs(0, 0, 0)", 0).asks("whatIs(0, 0, 1)", 0);
        // The last of seven.
        Scene seven = Scene.isle("t7001;t7002;t7003;t7004;t7005;t7006;t7007;s9;");
        seven.holdsRow(0, 0, 7, 15).asks("whatIs(0, 6, 0)", 3).refused("whatIs(0, 7, 0)", -1);
    }

    /** "FIGURES (bits 0 .. 9)". */
    private static void figuresFrom0To9() {
        Scene boatman = Scene.isle("t1520;s1;");
        boatman.holdsRow(0, 0, 20, 20).asks("whatIs(0, 0, 1)", 0b0000000111);
        boatman.holdsRow(0, 0, 20, 22).asks("whatIs(0, 0, 1)", 0b0111000000);
        boatman.holdsRow(0, 0, 20, 23).asks("whatIs(0, 0, 1)", 0b1000000000);
        boatman.holdsRow(0, 0, 20, 24).asks("whatIs(0, 0, 1)", 0);
        boatman.holdsRow(0, 0, 20, 19).asks("whatIs(0, 0, 1)", 0);
        Scene baker = Scene.isle("d09;t2050;b99;");
        baker.holdsRow(0, 0, 50, 43).asks("whatIs(0, 0, 1)", 1);
        baker.holdsRow(0, 0, 50, 50).asks("whatIs(0, 0, 1)", 1 << 7);
        baker.holdsRow(0, 0, 50, 51).asks("whatIs(0, 0, 1)", 1 << 8 | 1 << 9);
    }

    /** A ROW of 0 elements: nothing is told, so all of it is so. */
    private static void emptyRowsTellNothing() {
        Scene one = Scene.isle("t1520;");
        for (int sort = 0; sort <= 2; sort++) {
            Scene empty = one.with("row(0, " + sort + ", 0)");
            empty.asks("whatIs(0, 0, 0)", 255).asks("whatIs(0, 0, 1)", 1023).asks("whichSea(0)", 1023);
            empty.asks("judge(0)", -4).asks("forged(0)", -4);
        }
    }

    /** "(the least number of the SORT is skipped)", "(skipped likewise)". */
    private static void leastOfTheSortIsSkipped() {
        Scene one = Scene.isle("t0620;s4;");
        for (int sort = 0; sort <= 2; sort++) {
            int skip = LEAST[sort];
            Scene day2 = one.holdsRow(0, sort, skip, skip, 26);
            day2.asks("whatIs(0, 0, 0)", 1).asks("whatIs(0, 0, 1)", 1023).asks("whichSea(0)", 1 << 4).asks("judge(0)", 2);
            one.holdsRow(0, sort, skip).asks("whatIs(0, 0, 0)", 255).asks("whichSea(0)", 1023).asks("judge(0)", -4);
            one.holdsRow(0, sort, 20, skip, 27).asks("whatIs(0, 0, 0)", 0).asks("whichSea(0)", 0).asks("judge(0)", 0);
            one.holdsRow(0, sort, 1, skip, 1, skip, 2).asks("judge(0)", 4);
        }
    }

    /** The number next to the least, and the least of a lesser SORT, are told, and not so. */
    private static void nextToTheLeastIsNot() {
        Scene one = Scene.isle("t0620;");
        for (int sort = 0; sort <= 2; sort++) {
            Scene next = one.holdsRow(0, sort, 20, LEAST[sort] + 1);
            next.asks("whatIs(0, 0, 0)", 0).asks("whatIs(0, 0, 1)", 0).asks("whichSea(0)", 0);
            one.holdsRow(0, sort, 1, LEAST[sort] + 1).asks("judge(0)", 1);
            for (int lesser = 0; lesser < sort; lesser++) {
                one.holdsRow(0, sort, 20, LEAST[lesser]).asks("whatIs(0, 0, 0)", 0).asks("whichSea(0)", 0);
                one.holdsRow(0, sort, 1, LEAST[lesser]).asks("judge(0)", 1);
            }
        }
        // Bytes keep the lowest bits of 128 and 32768: those are the least number, and 0.
        one.holdsRow(0, 0, 20, 128).asks("whatIs(0, 0, 0)", 255);
        one.holdsRow(0, 0, 32768).asks("whatIs(0, 0, 0)", 0);
        one.holdsRow(0, 0, 20 + 256).asks("whatIs(0, 0, 0)", 255);
        one.holdsRow(0, 1, 20 + 256).asks("whatIs(0, 0, 0)", 0);
    }

    private static int[] skippedUpTo(int last, int value) {
        int[] row = new int[last + 1];
        for (int i = 0; i < last; i++) {
            row[i] = LEAST[0];
        }
        row[last] = value;
        return row;
    }

    /** "behind 0, 1, .. DAYS": as far as a ROW goes, 100 elements. */
    private static void rowsUpTo99DaysOn() {
        Scene one = Scene.isle("t7050;s0;");
        int[] lasts = {60, 61, 99};
        for (int last : lasts) {
            one.holdsRow(0, 0, skippedUpTo(last, 50)).asks("whatIs(0, 0, 0)", 128).asks("whichSea(0)", 1023);
            one.holdsRow(0, 0, skippedUpTo(last, 51)).asks("whatIs(0, 0, 0)", 0).asks("whichSea(0)", 0);
            one.holdsRow(0, 0, skippedUpTo(last, 1)).asks("judge(0)", -4);
            one.holdsRow(0, 0, skippedUpTo(last, 0)).asks("judge(0)", last);
        }
    }

    /** "-1, -11, -12 (no ROW)." */
    private static void whatIsRefused() {
        Scene one = Scene.isle("t0620;").holdsRow(0, 0, 20).holdsOne(1, 0, 0).holdsRow(7, 2, 20);
        one.asks("whatIs(0, 0, 0)", 255).asks("whatIs(7, 0, 0)", 255).asks("whatIs(0, 0, 1)", 1023);
        one.refused("whatIs(-1, 0, 0)", -1).refused("whatIs(8, 0, 0)", -1);
        one.refused("whatIs(0, -1, 0)", -1).refused("whatIs(0, 1, 0)", -1);
        one.refused("whatIs(0, 0, -1)", -1).refused("whatIs(0, 0, 2)", -1);
        one.refused("whatIs(2, 0, 0)", -11).refused("whatIs(1, 0, 0)", -12).refused("whatIs(1, 0, 1)", -12);
        // Of two refusals the first.
        one.refused("whatIs(2, 1, 0)", -1).refused("whatIs(2, -1, 0)", -1).refused("whatIs(2, 0, 2)", -1);
        one.refused("whatIs(1, 1, 0)", -1).refused("whatIs(1, 0, -1)", -1);
    }

    /** "SEAS (bits 0 .. 9) by which all of it is so". */
    private static void seasFrom0To9() {
        Scene one = Scene.isle("t0020;s4;");
        for (int sea = 0; sea <= 9; sea++) {
            one.holdsRow(0, 0, 20, 19 + sea).asks("whichSea(0)", 1 << sea);
        }
        one.holdsRow(0, 0, 20, 18).asks("whichSea(0)", 0);
        one.holdsRow(0, 0, 20, 29).asks("whichSea(0)", 0);
        one.holdsRow(0, 0, 20).asks("whichSea(0)", 1023);
        one.holdsRow(0, 0, 20, 20, 22).asks("whichSea(0)", 0);
        Scene.fresh().holdsRow(0, 0, 0, 0, 0).asks("whichSea(0)", 1023);
        Scene.fresh().holdsRow(0, 0, 0, 1).asks("whichSea(0)", 0);
    }

    /** "STORES of all THERE together": up to 7 by 99, more than a byte tells. */
    private static void seasOfThoseThere() {
        Scene most = Scene.isle("t0099;t0099;t0099;t0099;t0099;t0099;t0099;");
        most.holdsRow(0, 1, 693).asks("whichSea(0)", 1023);
        most.holdsRow(0, 2, 693, 686).asks("whichSea(0)", 1023);
        most.holdsRow(0, 0, 693).asks("whichSea(0)", 0);
        // By sea 0 and 1 he is too poor, by sea 9 not: the child's 10 are all that is THERE then.
        Scene gone = Scene.isle("b99;d09;t0000;t7010;w01;");
        gone.holdsRow(0, 0, 10, 10).asks("whichSea(0)", 1023);
        gone.holdsRow(0, 0, 10, 11).asks("whichSea(0)", 0);
        gone.with("stores(0, 1)").holdsRow(0, 0, 11, 11).asks("whichSea(0)", 1 << 9);
        gone.with("stores(0, 1)").holdsRow(0, 0, 11, 10).asks("whichSea(0)", 0b0111111111);
    }

    /** "-1, -11, -12." */
    private static void whichSeaRefused() {
        Scene one = Scene.isle("t0620;").holdsRow(0, 0, 20).holdsOne(1, 0, 0).holdsRow(7, 2, 20);
        one.asks("whichSea(0)", 1023).asks("whichSea(7)", 1023);
        one.refused("whichSea(-1)", -1).refused("whichSea(8)", -1);
        one.refused("whichSea(2)", -11).refused("whichSea(1)", -12);
    }

    /** "each gives half of his STORE (cut) away now (1; it is lost) or not (0)". */
    private static void twoGiveHalfCut() {
        // Both must have 9 left on the eve: of 17 half is 8, of 16 too.
        Scene eve = Scene.isle(EVE + "b40;t0017;t0017;w01;w11;");
        eve.asks("two(0, 1, 1)", 11);
        eve.with("stores(0, 16)").asks("two(0, 1, 1)", 1).asks("two(1, 0, 1)", 10);
        eve.with("stores(0, 16)", "stores(1, 16)").asks("two(0, 1, 1)", 0);
        eve.with("stores(0, 18)", "stores(1, 18)").asks("two(0, 1, 1)", 11);
        // Half of 1 is 0: nothing is lost. Nor is anything lost for the others.
        eve.with("stores(0, 1)", "stores(1, 0)").asks("two(0, 1, 1)", 11).asks("tenant(0, 2)", 1);
    }

    /** "behind n DAYS (1 .. 60)". */
    private static void twoBehind1To60() {
        Scene.isle("t0099;t0099;").asks("two(0, 1, 1)", 11);
        // From day 10 on by sea 0 one with half of 90 fish is gone on day 50, with 90 he is there on day 70,
        // with 89 he is gone on day 70 anyway.
        Scene day10 = Scene.isle("s0;d10;b40;t0090;t7000;");
        day10.asks("two(0, 1, 39)", 11).asks("two(0, 1, 40)", 1).asks("two(0, 1, 60)", 1);
        day10.with("stores(0, 89)").asks("two(0, 1, 59)", 1).asks("two(0, 1, 60)", 11);
        day10.refused("two(0, 1, 0)", -1).refused("two(0, 1, 61)", -1).refused("two(0, 1, -1)", -1);
    }

    /** "1 for each other one GONE, whoever he is; 1 more for giving". */
    private static void twoCountAllGone() {
        // By giving, the first is too poor on the eve: 5 less for him, unless the five behind him go by it.
        Scene.isle("s2;b13;t5012;t2750;t2650;t2650;t2650;t2650;t2650;w01;").asks("two(0, 1, 30)", 11);
        // With four of them it is as much: neither has more by another choice.
        Scene.isle("s2;b13;t5012;t2750;t2650;t2650;t2650;t2650;w01;").asks("two(0, 1, 30)", 1);
        // One GONE before counts in all pairs alike.
        Scene gone = Scene.isle("t0000;s0;d29;b40;t0017;t0016;w11;w21;");
        gone.asks("count(4)", 6).asks("two(1, 2, 1)", 10);
    }

    /** "the first pair (10 the one's and the other's) by which neither has more by another choice alone; -4". */
    private static void twoFirstPairOrNone() {
        Scene eve = Scene.isle(EVE + "b40;t0016;t0016;w01;w11;");
        eve.asks("two(0, 1, 1)", 0);
        eve.with("stores(1, 17)").asks("two(0, 1, 1)", 1);
        eve.with("stores(0, 17)").asks("two(0, 1, 1)", 10);
        eve.with("stores(0, 17)", "stores(1, 17)").asks("two(0, 1, 1)", 11);
        Scene.isle("s3;b24;t3174;t5203;t5445;t1786;w01;w11;w31;").asks("two(0, 1, 60)", -4);
        // As much by either choice: who gives has 1 for it, who keeps it pays, and has 1 for the last one's going.
        Scene same = Scene.isle(EVE + "b08;t0016;t7000;t0050;w21;");
        same.asks("two(0, 1, 1)", 1).asks("two(1, 0, 1)", 10);
    }

    /** "-1 (one twice), -3 either is GONE." */
    private static void twoRefused() {
        Scene gone = Scene.isle("t0000;t7000;t0000;s0;d20;t7000;");
        gone.refused("two(0, 1, 5)", -3).refused("two(1, 0, 5)", -3).refused("two(0, 2, 5)", -3).asks("two(1, 3, 5)", 11);
        gone.refused("two(1, 1, 5)", -1).refused("two(0, 0, 5)", -1);
        gone.refused("two(1, 4, 5)", -1).refused("two(4, 1, 5)", -1).refused("two(-1, 1, 5)", -1);
        gone.refused("two(1, -1, 5)", -1).refused("two(0, 4, 5)", -1).refused("two(0, 1, 0)", -1);
        gone.refused("two(0, 1, 61)", -1).refused("two(1, 0, 61)", -1);
    }

    private static void fraction(Scene scene, String asked, long above, long below) {
        scene.asks("storms(" + asked + ", 0)", above).asks("storms(" + asked + ", 1)", below);
    }

    /** "STORMS: on each of n DAYS (0 .. 7)". */
    private static void stormsOn0To7Days() {
        // 2 more on a fair day, 1 less in a storm.
        Scene one = Scene.isle("t0010;");
        fraction(one, "0, 0, 2, 10", 1, 1);
        fraction(one, "0, 0, 2, 11", 0, 1);
        fraction(one, "0, 1, 2, 12", 1, 2);
        fraction(one, "0, 7, 2, 24", 1, 128);
        fraction(one, "0, 7, 2, 25", 0, 1);
        fraction(one, "0, 7, 2, 3", 1, 1);
        fraction(one, "0, 7, 2, 4", 127, 128);
        fraction(one, "0, 7, 2, 21", 1, 16);
        one.refused("storms(0, -1, 2, 10, 0)", REFUSED).refused("storms(0, 8, 2, 10, 0)", REFUSED);
    }

    /** "with odds 1 in t (2 .. 20)". */
    private static void stormsOdds2To20() {
        Scene one = Scene.isle("t0010;");
        fraction(one, "0, 1, 2, 12", 1, 2);
        fraction(one, "0, 1, 3, 12", 2, 3);
        fraction(one, "0, 1, 20, 12", 19, 20);
        fraction(one, "0, 7, 20, 24", 893871739L, 1280000000L);
        one.refused("storms(0, 1, 1, 12, 0)", REFUSED).refused("storms(0, 1, 21, 12, 0)", REFUSED);
        one.refused("storms(0, 1, 0, 12, 0)", REFUSED).refused("storms(0, 1, -2, 12, 1)", REFUSED);
    }

    /** "how likely one has STORE v (0 .. 99) or more behind these". */
    private static void stormsStore0To99() {
        Scene full = Scene.isle("t0099;t0098;");
        fraction(full, "0, 0, 2, 99", 1, 1);
        fraction(full, "1, 0, 2, 99", 0, 1);
        fraction(full, "0, 1, 2, 99", 0, 1);
        fraction(full, "0, 1, 2, 98", 1, 1);
        fraction(full, "1, 1, 2, 98", 1, 2);
        fraction(Scene.isle("t0000;"), "0, 7, 20, 0", 1, 1);
        fraction(Scene.isle("t0000;"), "0, 1, 20, 1", 19, 20);
        full.refused("storms(0, 1, 2, -1, 0)", REFUSED).refused("storms(0, 1, 2, 100, 0)", REFUSED);
        // One GONE keeps what he has.
        Scene gone = Scene.isle("t0000;s0;d20;f099;s9;");
        fraction(gone, "0, 7, 2, 99", 1, 1);
    }

    /** "SEA is 0 (that DAY)"; "a fraction in least terms": nothing is 0 by 1, all 1 by 1. */
    private static void stormsInLeastTerms() {
        Scene one = Scene.isle("t0010;");
        fraction(one, "0, 2, 4, 11", 15, 16);
        fraction(one, "0, 2, 4, 14", 9, 16);
        fraction(one, "0, 3, 2, 13", 1, 2);
        fraction(one, "0, 2, 4, 15", 0, 1);
        fraction(one, "0, 2, 4, 8", 1, 1);
        // In a storm on the rent day the birds want 47, on a fair one 2.
        Scene eve = Scene.isle("s9;b47;d09;t0050;w01;");
        fraction(eve, "0, 1, 2, 50", 1, 2);
        // He is gone behind the fair rent day (2 of 8 wanted) and eats no more; in the storm he has 41 and goes on.
        fraction(eve, "0, 2, 2, 50", 1, 2);
        fraction(eve, "0, 2, 2, 49", 3, 4);
    }

    private static void stormsRefused() {
        Scene one = Scene.isle("t0010;t0010;");
        fraction(one, "1, 0, 2, 10", 1, 1);
        one.refused("storms(-1, 1, 2, 5, 0)", REFUSED).refused("storms(2, 1, 2, 5, 0)", REFUSED);
        one.refused("storms(0, 1, 2, 5, -1)", REFUSED).refused("storms(0, 1, 2, 5, 2)", REFUSED);
        Scene.fresh().refused("storms(0, 0, 2, 0, 0)", REFUSED);
    }

    /** "SHARE: STORE of one by that of all THERE: a fraction in least terms". */
    private static void sharesInLeastTerms() {
        Scene seven = Scene.isle("t0099;t0099;t0099;t0099;t0099;t0099;t0099;");
        seven.asks("share(6, 0)", 1).asks("share(6, 1)", 7).refused("share(7, 0)", REFUSED);
        Scene two = Scene.isle("t0099;t0098;");
        two.asks("share(0, 0)", 99).asks("share(0, 1)", 197).asks("share(1, 0)", 98).asks("share(1, 1)", 197);
        Scene.isle("t0050;").asks("share(0, 0)", 1).asks("share(0, 1)", 1);
        Scene.isle("t0001;").asks("share(0, 0)", 1).asks("share(0, 1)", 1);
        Scene.isle("t0001;t0099;").asks("share(0, 0)", 1).asks("share(0, 1)", 100);
    }

    /** "(0 by 1, if that is 0; one GONE 0)". */
    private static void sharesOfNothing() {
        Scene.isle("t0000;t0000;").asks("share(0, 0)", 0).asks("share(0, 1)", 1);
        Scene.isle("t0000;t0010;").asks("share(0, 0)", 0).asks("share(0, 1)", 1).asks("share(1, 1)", 1);
        Scene gone = Scene.isle("t0000;t7000;s0;d20;f099;");
        gone.asks("share(0, 0)", 0).asks("share(0, 1)", 1).asks("share(1, 0)", 0).asks("share(1, 1)", 1);
        Scene some = gone.with("stores(1, 33)");
        some.asks("share(0, 0)", 0).asks("share(0, 1)", 1).asks("share(1, 0)", 1).asks("share(1, 1)", 1);
    }

    private static void shareRefused() {
        Scene one = Scene.isle("t0010;");
        one.refused("share(-1, 0)", REFUSED).refused("share(1, 0)", REFUSED);
        one.refused("share(0, -1)", REFUSED).refused("share(0, 2)", REFUSED).refused("share(1, 2)", REFUSED);
        Scene.fresh().refused("share(0, 0)", REFUSED);
    }

    /** "FORGED: a ROW tells STORES of TENANTS 0, 1, ..: the first that is not so; -4". */
    private static void forgedFirst() {
        Scene three = Scene.isle("t0000;t0050;t0099;");
        for (int sort = 0; sort <= 2; sort++) {
            three.holdsRow(0, sort, 0, 50, 99).asks("forged(0)", -4);
            three.holdsRow(0, sort, 0, 50, 98).asks("forged(0)", 2);
            three.holdsRow(0, sort, 0, 51, 98).asks("forged(0)", 1);
            three.holdsRow(0, sort, -1, 50, 99).asks("forged(0)", 0);
            three.holdsRow(0, sort, 0, 50).asks("forged(0)", -4);
            three.holdsRow(0, sort, 0).asks("forged(0)", -4);
        }
        // One GONE has his STORE as any other.
        Scene.isle("t0000;s0;d20;f099;").holdsRow(0, 0, 99).asks("forged(0)", -4);
    }

    /** "(no such TENANT, too)". */
    private static void forgedNoSuchTenant() {
        Scene three = Scene.isle("t0000;t0000;t0000;");
        three.with("row(0, 0, 3)").asks("forged(0)", -4);
        three.with("row(0, 0, 4)").asks("forged(0)", 3);
        three.with("row(0, 0, 100)").asks("forged(0)", 3);
        Scene seven = Scene.isle("t0000;t0000;t0000;t0000;t0000;t0000;t0000;");
        seven.with("row(0, 1, 7)").asks("forged(0)", -4);
        seven.with("row(0, 1, 8)").asks("forged(0)", 7);
        Scene.fresh().with("row(0, 0, 0)").asks("forged(0)", -4);
        Scene.fresh().with("row(0, 0, 1)").asks("forged(0)", 0);
    }

    /** Of FORGED no number is said to be skipped. */
    private static void forgedSkipsNothing() {
        Scene three = Scene.isle("t0000;t0050;t0099;");
        for (int sort = 0; sort <= 2; sort++) {
            three.holdsRow(0, sort, 0, LEAST[sort], 99).asks("forged(0)", 1);
        }
    }

    /** "JUDGED: a ROW tells how many are THERE behind 0, 1, .. DAYS: the first that is not so; -4". */
    private static void judgedFirst() {
        Scene eve = Scene.isle("t0000;t0000;t7000;s0;d19;");
        for (int sort = 0; sort <= 2; sort++) {
            eve.holdsRow(0, sort, 3, 1, 1).asks("judge(0)", -4);
            eve.holdsRow(0, sort, 3, 3, 1).asks("judge(0)", 1);
            eve.holdsRow(0, sort, 3, 2).asks("judge(0)", 1);
            eve.holdsRow(0, sort, 2, 0, 0).asks("judge(0)", 0);
            eve.holdsRow(0, sort, 3, 1, 0).asks("judge(0)", 2);
            eve.holdsRow(0, sort, LEAST[sort], 1, LEAST[sort], 2).asks("judge(0)", 3);
        }
        Scene.fresh().with("row(0, 0, 100)").asks("judge(0)", -4);
        Scene.isle("t7000;t7000;t7000;t7000;t7000;t7000;t7000;").holdsRow(0, 0, 7, 7).asks("judge(0)", -4);
    }

    /** The 0th of a ROW is told of now, the 1st of a DAY on. */
    private static void judgedDays() {
        Scene day18 = Scene.isle("t0000;s0;d18;");
        day18.holdsRow(0, 0, 1, 1, 0).asks("judge(0)", -4);
        day18.holdsRow(0, 0, 1, 0).asks("judge(0)", 1);
        day18.holdsRow(0, 0, 1, 1, 1).asks("judge(0)", 2);
    }

    /** "-1, -11, -12", of FORGED and JUDGED. */
    private static void toldRowsRefused() {
        Scene one = Scene.isle("t0020;").holdsRow(0, 0, 20).holdsOne(1, 0, 0).holdsRow(7, 2, 1);
        one.asks("forged(0)", -4).asks("forged(7)", 0).asks("judge(0)", 0).asks("judge(7)", -4);
        String[] calls = {"forged", "judge"};
        for (String call : calls) {
            one.refused(call + "(-1)", -1).refused(call + "(8)", -1);
            one.refused(call + "(2)", -11).refused(call + "(1)", -12);
        }
    }

    /** z behind one DRAW, by longs. */
    private static long behindDraw(long z) {
        return (z * 1103515245L + 12345L) & 0xffffffffL;
    }

    private static int drawn(long z, int below) {
        return (int) ((z & 0x7fffffffL) / 65536 % below);
    }

    private static int birdsBehindAYear(int sea, int birds) {
        int once = Math.max(0, Math.min(99, birds + sea - 3));
        return Math.max(0, Math.min(99, once + sea - 3));
    }

    private static int birdsTogether(int n, int z) {
        long seed = z;
        int sum = 0;
        for (int year = 0; year < n; year++) {
            seed = behindDraw(seed);
            int sea = drawn(seed, 10);
            seed = behindDraw(seed);
            sum += birdsBehindAYear(sea, drawn(seed, 100));
        }
        return sum;
    }

    /** "YEARS with a seed z: n (1 .. 20), each from now ... then 20 DAYS: THERE together; BIRDS together." */
    private static void yearsFrom1To20() {
        Scene children = Scene.isle("t7000;t7000;t7000;t7000;t7000;t7000;t7000;");
        children.asks("years(1, 5, 0)", 7).asks("years(20, 5, 0)", 140);
        children.asks("years(1, 5, 1)", birdsTogether(1, 5)).asks("years(20, 5, 1)", birdsTogether(20, 5));
        // Those GONE are none, and from now on a year has two rent days, whatever DAY it is.
        Scene poor = Scene.isle("t0000;t3000;s0;d20;t7000;");
        poor.asks("years(20, 5, 0)", 20);
        Scene eve = Scene.isle("d09;t7000;").with("set(1, 7)");
        eve.asks("years(20, 5, 1)", birdsTogether(20, 5));
    }

    /** "z becomes z times 1103515245 plus 12345 (an int)": any int is a seed. */
    private static void drawsKeepAnInt() {
        int[] seeds = {0, 1, -1, 65535, 65536, -65536, Integer.MAX_VALUE, Integer.MIN_VALUE, 123456789, -123456789};
        for (int z : seeds) {
            Scene.fresh().asks("years(1, " + z + ", 1)", birdsTogether(1, z));
            Scene.fresh().asks("years(20, " + z + ", 1)", birdsTogether(20, z));
            Scene.isle("t7000;").asks("years(20, " + z + ", 0)", 20);
        }
        Scene.fresh().asks("years(1, 77, 0)", 0);
    }

    /** "SEA a DRAW below 10, BIRDS a DRAW below 100": the least and the greatest of both. */
    private static void drawsAtTheEnds() {
        int[][] seaAndBirds = {{0, 0}, {0, 99}, {9, 0}, {9, 99}};
        for (int[] want : seaAndBirds) {
            int z = 0;
            while (drawn(behindDraw(z), 10) != want[0] || drawn(behindDraw(behindDraw(z)), 100) != want[1]) {
                z++;
            }
            Scene.fresh().asks("years(1, " + z + ", 1)", birdsBehindAYear(want[0], want[1]));
            // A tenant without fish pays twice by sea 9 and 99 birds, and never by sea 0.
            Scene.isle("t0000;").asks("years(1, " + z + ", 0)", want[0] == 9 && want[1] == 99 ? 1 : 0);
        }
    }

    private static void yearsRefused() {
        Scene one = Scene.isle("t7000;");
        one.refused("years(0, 1, 0)", -1).refused("years(-1, 1, 0)", -1).refused("years(21, 1, 0)", -1);
        one.refused("years(0, 1, 1)", -1).refused("years(21, 1, 1)", -1);
        one.refused("years(1, 1, -1)", -1).refused("years(1, 1, 2)", -1).refused("years(20, 1, 2)", -1);
    }
}
