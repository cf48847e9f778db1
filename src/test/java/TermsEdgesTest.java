/** The bounds that "Terms" names up to THE TEXT: a test for each sentence, on both sides of its bound. */
public final class TermsEdgesTest {
    /** Day 9 of a bad sea, so that all of the next day can be told ahead: one fish eaten, then the rent. */
    private static final String EVE = "s0;d09;";

    public static void main(String[] args) {
        tenantsSevenAtMost();
        tenantsAtFirst();
        isleAtFirst();
        storeBounds();
        seaBounds();
        birdsBounds();
        kindAndFigureBounds();
        dayBounds();
        boatmanCatchesCut();
        clerkAndLawyerCatchCut();
        nurseCatchesByEvenDays();
        whalerCatchesByThirdDays();
        catchesWithoutSea();
        bakerOwesZeroAtLeast();
        nurseOwesHalfCut();
        clerkOwesByTensOfBirds();
        lawyerOwesHalfCut();
        othersOweTheSame();
        frightens();
        storeNinetyNineAtMost();
        storeZeroAtLeast();
        rentOnTenthDays();
        seaLeftZeroAtLeast();
        wantZeroAtLeast();
        laysOutIfHeHasIt();
        takenWhatIsWanted();
        owesZeroHasNoWarning();
        oneWarningMore();
        goneByTwoWarnings();
        paidByNumbers();
        birdsHeldAtBothEnds();
        birdsChangeOnRentDaysAlone();
        birdsChangeLast();
        Check.end();
    }

    /** "TENANTS 0 .. 6 as they come (7 at most)". */
    private static void tenantsSevenAtMost() {
        Scene six = Scene.isle("t0010;t0010;t0010;t0010;t0010;t0010;").holdsOne(3, 6, 5);
        six.asks("count(0)", 6).asks("count(4)", 63).refused("tenant(6, 0)", -1);
        Scene seven = six.does("comes(3, 33)", 6);
        seven.asks("count(0)", 7).asks("count(4)", 127).asks("tenant(6, 2)", 33).asks("tenant(6, 0)", 6);
        seven.refused("comes(3, 33)", -2).refused("tenant(7, 0)", -1).faults("t0010;", -2000);
        Scene told = six.comesTrue("t6533;");
        told.asks("tenant(6, 2)", 33).asks("tenant(6, 1)", 5).asks("tenant(6, 0)", 6).refused("comes(3, 33)", -2);
        Scene back = seven.with("image()", "stores(6, 1)", "restore()");
        back.asks("tenant(6, 2)", 33).asks("tenant(6, 1)", 5).asks("tenant(6, 0)", 6).asks("tenant(6, 4)", 1);
        Scene.fresh().holdsOne(3, 6, 5).does("comes(3, 0)", 0).does("comes(3, 1)", 1).asks("tenant(1, 2)", 1);
        // Who is GONE still has his number: there is no more room then.
        Scene gone = Scene.isle("t0000;t0000;t0000;t0000;t0000;t0000;t0000;s0;d20;").holdsOne(3, 6, 5);
        gone.asks("count(4)", 0).asks("count(0)", 7).refused("comes(3, 1)", -2).faults("t0010;", -2000);
    }

    /** "WARNINGS (0, 1 or 2; 0 at first), THERE (at first) or GONE." */
    private static void tenantsAtFirst() {
        Scene come = Scene.fresh().holdsOne(0, 1, 2).does("comes(0, 12)", 0).comesTrue("t3445;");
        for (int t = 0; t < 2; t++) {
            come.asks("tenant(" + t + ", 3)", 0).asks("tenant(" + t + ", 4)", 1);
        }
        // As the ones ahead of them were on another object, and on this one before it was restored.
        Scene restored = Scene.isle("t0000;").with("image()").comesTrue("t1700;w11;s0;d20;").does("restore()", 0);
        Scene again = restored.comesTrue("t2004;");
        again.asks("tenant(1, 0)", 2).asks("tenant(1, 1)", 0).asks("tenant(1, 2)", 4);
        again.asks("tenant(1, 3)", 0).asks("tenant(1, 4)", 1);
    }

    /** "BIRDS (0 .. 99; 40 at first). SEA (0 .. 9; 3 at first). DAY (0 .. 999; 0 at first)"; "No TENANTS." */
    private static void isleAtFirst() {
        Scene.isle("t0000;t1000;s9;b99;d60;").asks("count(1)", 60);
        int[] want = {0, 0, 3, 40, 0, 0};
        for (int what = 0; what < want.length; what++) {
            Scene.fresh().asks("count(" + what + ")", want[what]);
        }
        Scene.fresh().refused("tenant(0, 0)", -1).refused("restore()", -3);
        for (int d = 0; d < 8; d++) {
            Scene.fresh().refused("cost(" + d + ")", -11).thrown("element(" + d + ", 0)", "IllegalStateException");
        }
    }

    /** "a STORE of fish (0 .. 99 ...)": by comes, by stores and by texts. */
    private static void storeBounds() {
        Scene one = Scene.isle("t0010;").holdsOne(0, 0, 0);
        one.does("comes(0, 0)", 1).asks("tenant(1, 2)", 0);
        one.does("comes(0, 99)", 1).asks("tenant(1, 2)", 99);
        one.refused("comes(0, -1)", -1).refused("comes(0, 100)", -1);
        one.does("stores(0, 0)", 10).asks("tenant(0, 2)", 0);
        one.does("stores(0, 99)", 10).asks("tenant(0, 2)", 99).does("stores(0, 5)", 99);
        one.refused("stores(0, -1)", -1).refused("stores(0, 100)", -1);
        one.comesTrue("t0000;").asks("tenant(1, 2)", 0);
        one.comesTrue("t0099;").asks("tenant(1, 2)", 99);
        one.comesTrue("f000;").asks("tenant(0, 2)", 0);
        one.comesTrue("f099;").asks("tenant(0, 2)", 99);
    }

    /** "SEA (0 .. 9 ...)". */
    private static void seaBounds() {
        Scene one = Scene.isle("s5;");
        one.does("set(0, 0)", 5).asks("count(2)", 0).does("set(0, 1)", 0);
        one.does("set(0, 9)", 5).asks("count(2)", 9).does("set(0, 1)", 9);
        one.refused("set(0, -1)", -1).refused("set(0, 10)", -1);
        one.comesTrue("s0;").asks("count(2)", 0);
        one.comesTrue("s9;").asks("count(2)", 9);
    }

    /** "BIRDS (0 .. 99 ...)". */
    private static void birdsBounds() {
        Scene one = Scene.isle("b50;");
        one.does("set(1, 0)", 50).asks("count(3)", 0).does("set(1, 1)", 0);
        one.does("set(1, 99)", 50).asks("count(3)", 99).does("set(1, 1)", 99);
        one.does("set(1, 10)", 50).asks("count(3)", 10);
        one.refused("set(1, -1)", -1).refused("set(1, 100)", -1);
        one.comesTrue("b00;").asks("count(3)", 0);
        one.comesTrue("b99;").asks("count(3)", 99);
    }

    /** "KINDS: 0 TENANT; .. 7 CHILD"; "a FIGURE (0 .. 9)". */
    private static void kindAndFigureBounds() {
        Scene shelf = Scene.fresh().holdsOne(2, 3, 4);
        shelf.does("keep(2, 1, 0, 0)", 0).does("comes(2, 1)", 0).asks("tenant(0, 0)", 0).asks("tenant(0, 1)", 0);
        shelf.does("keep(2, 1, 7, 9)", 0).does("comes(2, 1)", 0).asks("tenant(0, 0)", 7).asks("tenant(0, 1)", 9);
        shelf.refused("keep(2, 1, -1, 0)", -1).refused("keep(2, 1, 8, 0)", -1);
        shelf.refused("keep(2, 1, 0, -1)", -1).refused("keep(2, 1, 0, 10)", -1);
        Scene.isle("t0000;").asks("tenant(0, 0)", 0).asks("tenant(0, 1)", 0);
        Scene.isle("t7900;").asks("tenant(0, 0)", 7).asks("tenant(0, 1)", 9);
        Scene.fresh().faults("t8000;", -2000).faults("t9000;", -2000);
    }

    /** "DAY (0 .. 999 ...)"; "days() is refused (-3 ...), if DAY and n together are above 999; none of them goes". */
    private static void dayBounds() {
        Scene late = Scene.isle("t7010;d60;d60;d60;d60;d60;d60;d60;d60;d60;d60;d60;d60;d60;d60;d60;d58;");
        late.asks("count(1)", 958);
        late.does("days(41)", 1).asks("count(1)", 999);
        late.refused("days(42)", -3).refused("days(60)", -3).refused("days(61)", -1);
        Scene last = late.comesTrue("d40;");
        last.asks("count(1)", 998).refused("days(2)", -3).faults("d02;", -2000);
        Scene end = last.does("days(1)", 1);
        end.asks("count(1)", 999).refused("days(1)", -3).refused("days(60)", -3).faults("d01;", -2000);
        end.refused("days(0)", -1).refused("days(61)", -1).refused("days(-1)", -1);
        end.does("image()", 999).does("restore()", 999);
        Scene.fresh().does("days(1)", 0).asks("count(1)", 1);
        Scene.fresh().does("days(60)", 0).asks("count(1)", 60);
        Scene.fresh().refused("days(0)", -1).refused("days(-1)", -1).refused("days(61)", -1);
    }

    /** "BOATMAN FIGURE by 3, cut, more". */
    private static void boatmanCatchesCut() {
        int[] more = {0, 0, 0, 1, 1, 1, 2, 2, 2, 3};
        for (int figure = 0; figure <= 9; figure++) {
            Scene.isle("s0;t1" + figure + "00;").asks("tenant(0, 6)", more[figure]);
            Scene.isle("s9;t1" + figure + "00;").asks("tenant(0, 6)", 9 + more[figure]);
        }
    }

    /** "CLERK s by 2, cut"; "LAWYER as a CLERK". */
    private static void clerkAndLawyerCatchCut() {
        int[] half = {0, 0, 1, 1, 2, 2, 3, 3, 4, 4};
        for (int sea = 0; sea <= 9; sea++) {
            Scene.isle("t3900;t6900;s" + sea + ";").asks("tenant(0, 6)", half[sea]).asks("tenant(1, 6)", half[sea]);
        }
    }

    /** "NURSE as a BAKER, 1 more if 2 divides d": the DAY that is told is the next one. */
    private static void nurseCatchesByEvenDays() {
        Scene nurse = Scene.isle("t4010;t2010;");
        nurse.asks("tenant(0, 6)", 2);
        nurse.comesTrue("d01;").asks("tenant(0, 6)", 3).asks("tenant(1, 6)", 2).asks("tenant(0, 2)", 11);
        nurse.comesTrue("d02;").asks("tenant(0, 6)", 2).asks("tenant(0, 2)", 13).asks("tenant(1, 2)", 12);
        nurse.comesTrue("d09;").asks("tenant(0, 6)", 3);
        Scene end = Scene.isle("d60;d60;d60;d60;d60;d60;d60;d60;d60;d60;d60;d60;d60;d60;d60;d60;d39;").comesTrue("t4010;");
        end.asks("count(1)", 999).asks("tenant(0, 6)", 3);
    }

    /** "WHALER twice a BOATMAN's, if 3 divides d, else 0". */
    private static void whalerCatchesByThirdDays() {
        Scene whaler = Scene.isle("t5510;s1;");
        whaler.asks("tenant(0, 6)", 0);
        whaler.comesTrue("d01;").asks("tenant(0, 6)", 0).asks("tenant(0, 2)", 9);
        // Twice what is cut: 1 and 5 by 3 make 2.
        whaler.comesTrue("d02;").asks("tenant(0, 6)", 4).asks("tenant(0, 2)", 8);
        whaler.comesTrue("d03;").asks("tenant(0, 6)", 0).asks("tenant(0, 2)", 11);
        whaler.comesTrue("d05;").asks("tenant(0, 6)", 4);
        Scene.isle("t5910;s9;d02;").asks("tenant(0, 6)", 24);
    }

    /** CATCHES by SEA 0 and 9, of those by whom neither FIGURE nor DAY count. */
    private static void catchesWithoutSea() {
        Scene.isle("t0900;t2900;t7900;s0;").asks("tenant(0, 6)", 0).asks("tenant(1, 6)", 2).asks("tenant(2, 6)", 1);
        Scene.isle("t0900;t2900;t7900;s9;").asks("tenant(0, 6)", 9).asks("tenant(1, 6)", 2).asks("tenant(2, 6)", 1);
    }

    /** "BAKER FIGURE less than a TENANT (0 at least)". */
    private static void bakerOwesZeroAtLeast() {
        int[] want = {8, 7, 6, 5, 4, 3, 2, 1, 0, 0};
        for (int figure = 0; figure <= 9; figure++) {
            Scene.isle("t2" + figure + "10;").asks("tenant(0, 5)", want[figure]);
        }
    }

    /** "NURSE half of a BAKER's, cut". */
    private static void nurseOwesHalfCut() {
        int[] want = {4, 3, 3, 2, 2, 1, 1, 0, 0, 0};
        for (int figure = 0; figure <= 9; figure++) {
            Scene.isle("t4" + figure + "10;").asks("tenant(0, 5)", want[figure]);
        }
    }

    /** "CLERK b by 10, cut, more than a TENANT". */
    private static void clerkOwesByTensOfBirds() {
        int[][] birdsAndWant = {{0, 8}, {9, 8}, {10, 9}, {19, 9}, {20, 10}, {89, 16}, {90, 17}, {99, 17}};
        for (int[] one : birdsAndWant) {
            Scene.isle("t3910;").does("set(1, " + one[0] + ")", 40).asks("tenant(0, 5)", one[1]);
        }
    }

    /** "LAWYER half of a CLERK's, cut". */
    private static void lawyerOwesHalfCut() {
        int[][] birdsAndWant = {{0, 4}, {9, 4}, {10, 4}, {19, 4}, {20, 5}, {39, 5}, {40, 6}, {79, 7}, {80, 8}, {99, 8}};
        for (int[] one : birdsAndWant) {
            Scene.isle("t6910;").does("set(1, " + one[0] + ")", 40).asks("tenant(0, 5)", one[1]);
        }
    }

    /** "TENANT 8; BOATMAN 3 more", "WHALER as a BOATMAN", "CHILD 0": neither FIGURE nor BIRDS count. */
    private static void othersOweTheSame() {
        int[][] kindAndWant = {{0, 8}, {1, 11}, {5, 11}, {7, 0}};
        for (int[] one : kindAndWant) {
            Scene.isle("b00;t" + one[0] + "000;").asks("tenant(0, 5)", one[1]);
            Scene.isle("b99;t" + one[0] + "900;").asks("tenant(0, 5)", one[1]);
        }
    }

    /** "TENANT 0; BOATMAN 1; WHALER 1 more than a BOATMAN; others 0". */
    private static void frightens() {
        int[] less = {0, 1, 0, 0, 0, 2, 0, 0};
        for (int kind = 0; kind < 8; kind++) {
            Scene.isle("b99;s9;t" + kind + "950;").asks("rent(0)", 99 - 5 * (9 - less[kind]));
        }
        Scene.isle("t1000;s0;d20;s9;b99;").asks("count(4)", 0).asks("rent(0)", 54);
    }

    /** "STORE is what he CATCHES more (99 at most), then 1 less for what he eats". */
    private static void storeNinetyNineAtMost() {
        int[][] storeAndWant = {{95, 97}, {96, 98}, {97, 98}, {98, 98}, {99, 98}};
        for (int[] one : storeAndWant) {
            Scene.isle("t0000;s3;").with("stores(0, " + one[0] + ")", "days(1)").asks("tenant(0, 2)", one[1]);
        }
        Scene.isle("t5999;s9;d02;f099;d01;").asks("tenant(0, 2)", 98);
    }

    /** "then 1 less for what he eats (0 at least)". */
    private static void storeZeroAtLeast() {
        Scene.isle("t0000;s0;d01;").asks("tenant(0, 2)", 0);
        Scene.isle("t0001;s0;d01;").asks("tenant(0, 2)", 0);
        Scene.isle("t0002;s0;d01;").asks("tenant(0, 2)", 1);
        Scene.isle("t0000;s1;d01;").asks("tenant(0, 2)", 0);
        Scene.isle("t0000;s2;d01;").asks("tenant(0, 2)", 1);
    }

    /** "If 10 divides DAY, it is a RENT DAY". */
    private static void rentOnTenthDays() {
        Scene one = Scene.isle("t0050;s0;");
        one.comesTrue("d09;").asks("tenant(0, 2)", 41).asks("count(3)", 40);
        one.comesTrue("d10;").asks("tenant(0, 2)", 32).asks("count(3)", 37);
        one.comesTrue("d11;").asks("tenant(0, 2)", 31).asks("count(3)", 37);
        one.comesTrue("d19;").asks("tenant(0, 2)", 23).asks("count(3)", 37);
        one.comesTrue("d20;").asks("tenant(0, 2)", 14).asks("count(3)", 34);
        one.comesTrue("d60;").asks("count(3)", 22);
    }

    /** "what is left of SEA, all THERE having FRIGHTENED (0 at least each)". */
    private static void seaLeftZeroAtLeast() {
        Scene boatmen = Scene.isle("b50;t1050;t1050;t1050;");
        boatmen.with("set(0, 2)").asks("rent(0)", 50);
        boatmen.with("set(0, 3)").asks("rent(0)", 50);
        boatmen.with("set(0, 4)").asks("rent(0)", 45);
        Scene whalers = Scene.isle("b50;t5050;t5050;t5050;t5050;");
        whalers.with("set(0, 7)").asks("rent(0)", 50);
        whalers.with("set(0, 8)").asks("rent(0)", 50);
        whalers.with("set(0, 9)").asks("rent(0)", 45);
        Scene most = Scene.isle("b99;s0;t5050;t5050;t5050;t5050;t5050;t5050;t5050;");
        most.asks("rent(0)", 99).with("set(0, 9)").asks("rent(0)", 99);
    }

    /** "BIRDS WANT themselves less 5 times what is left of SEA ... (0 at least each)". */
    private static void wantZeroAtLeast() {
        Scene nobody = Scene.isle("s9;");
        nobody.with("set(1, 44)").asks("rent(0)", 0);
        nobody.with("set(1, 45)").asks("rent(0)", 0);
        nobody.with("set(1, 46)").asks("rent(0)", 1);
        nobody.with("set(1, 0)").asks("rent(0)", 0);
        nobody.with("set(1, 99)").asks("rent(0)", 54);
        Scene.isle("s0;b00;").asks("rent(0)", 0).with("set(1, 1)").asks("rent(0)", 1);
        // Birds who want less than nothing take nothing, and owe nothing to the next.
        Scene.isle("t0050;t7050;s9;b00;d10;").asks("tenant(0, 3)", 1).asks("tenant(1, 3)", 0);
    }

    /** "each lays out what he OWES, if he has it (STORE less by it), else nothing". */
    private static void laysOutIfHeHasIt() {
        Scene eve = Scene.isle(EVE + "t0000;");
        eve.comesTrue("f008;d01;").asks("tenant(0, 2)", 7).asks("tenant(0, 3)", 1);
        eve.comesTrue("f009;d01;").asks("tenant(0, 2)", 0).asks("tenant(0, 3)", 0);
        eve.comesTrue("f010;d01;").asks("tenant(0, 2)", 1).asks("tenant(0, 3)", 0);
        eve.comesTrue("f000;d01;").asks("tenant(0, 2)", 0).asks("tenant(0, 3)", 1);
        // Nothing laid out is nothing taken: what the first has not is left for the second.
        Scene.isle(EVE + "b08;t0008;t0009;d01;").asks("tenant(0, 3)", 1).asks("tenant(1, 3)", 0);
    }

    /** "BIRDS take of it what they still WANT"; "what was not taken is lost". */
    private static void takenWhatIsWanted() {
        Scene eve = Scene.isle(EVE + "t0050;t0050;t7050;");
        Scene enough = eve.comesTrue("b16;d01;");
        enough.asks("tenant(0, 3)", 0).asks("tenant(1, 3)", 0).asks("tenant(1, 2)", 41);
        Scene oneLess = eve.comesTrue("b15;d01;");
        oneLess.asks("tenant(0, 3)", 0).asks("tenant(1, 3)", 1).asks("tenant(1, 2)", 41).asks("tenant(2, 2)", 50);
        eve.comesTrue("b08;d01;").asks("tenant(0, 3)", 0).asks("tenant(1, 3)", 1).asks("tenant(1, 2)", 41);
        eve.comesTrue("b07;d01;").asks("tenant(0, 3)", 1).asks("tenant(0, 2)", 41).asks("tenant(1, 3)", 1);
        eve.comesTrue("b00;d01;").asks("tenant(0, 3)", 1).asks("tenant(0, 2)", 41);
        // The 4 still wanted behind the tenant are all taken from the second; a nurse with 4 would have been well.
        Scene.isle(EVE + "t0050;t0050;t4050;b12;d01;").asks("tenant(1, 3)", 1).asks("tenant(2, 3)", 1);
        Scene.isle(EVE + "t0050;t4050;t0050;b12;d01;").asks("tenant(1, 3)", 0).asks("tenant(2, 3)", 1);
    }

    /** "who laid out all and it was all taken (he who OWES 0, too) has no WARNING". */
    private static void owesZeroHasNoWarning() {
        // A baker by figure 8, a nurse by 7 and a child owe 0; a baker by 7 owes 1, a nurse by 6 too.
        Scene none = Scene.isle(EVE + "b00;t2850;t4750;t7000;t2750;t4650;w01;w11;w21;w31;w41;d01;");
        int[] warnings = {0, 0, 0, 2, 2};
        for (int t = 0; t < warnings.length; t++) {
            none.asks("tenant(" + t + ", 3)", warnings[t]);
        }
        none.asks("count(4)", 7);
        Scene.isle(EVE + "b01;t2750;w01;d01;").asks("tenant(0, 3)", 0);
        Scene.isle(EVE + "b00;t2750;w01;d01;").asks("tenant(0, 3)", 2);
    }

    /** "any other one 1 more". */
    private static void oneWarningMore() {
        Scene poor = Scene.isle(EVE + "t0000;");
        poor.comesTrue("w00;d01;").asks("tenant(0, 3)", 1);
        poor.comesTrue("w01;d01;").asks("tenant(0, 3)", 2);
        poor.comesTrue("w01;f050;d01;").asks("tenant(0, 3)", 0);
        poor.comesTrue("w00;f050;d01;").asks("tenant(0, 3)", 0);
    }

    /** "Who has 2 WARNINGS then is GONE." */
    private static void goneByTwoWarnings() {
        Scene eve = Scene.isle(EVE + "t0000;t0000;w11;");
        eve.asks("tenant(1, 4)", 1).asks("count(4)", 3);
        Scene rent = eve.does("days(1)", 1);
        rent.asks("tenant(0, 3)", 1).asks("tenant(0, 4)", 1).asks("tenant(1, 3)", 2).asks("tenant(1, 4)", 0);
        rent.asks("count(4)", 1);
        // Who is GONE neither catches nor eats nor pays, and has 2 warnings for good.
        Scene later = rent.comesTrue("s9;f150;f050;d20;");
        later.asks("tenant(1, 2)", 50).asks("tenant(1, 3)", 2).asks("tenant(1, 4)", 0);
    }

    /** "TENANTS THERE, by numbers": who comes first is taken from first. */
    private static void paidByNumbers() {
        Scene.isle(EVE + "b11;t0050;t1050;d01;").asks("tenant(0, 3)", 0).asks("tenant(1, 3)", 1);
        Scene.isle(EVE + "b11;t1050;t0050;d01;").asks("tenant(0, 3)", 0).asks("tenant(1, 3)", 1);
        Scene.isle(EVE + "b08;t0050;t0050;t0050;d01;").asks("tenant(0, 3)", 0).asks("tenant(2, 3)", 1);
    }

    /** "BIRDS are SEA more, 3 less (0 .. 99 held)". */
    private static void birdsHeldAtBothEnds() {
        int[][] birdsSeaAndWant = {
            {4, 0, 1}, {3, 0, 0}, {2, 0, 0}, {0, 0, 0}, {1, 2, 0}, {0, 2, 0}, {2, 2, 1}, {0, 3, 0}, {0, 4, 1}, {0, 9, 6},
            {92, 9, 98}, {93, 9, 99}, {94, 9, 99}, {99, 9, 99}, {98, 4, 99}, {99, 4, 99}, {99, 3, 99}, {99, 2, 98},
            {99, 0, 96}};
        for (int[] one : birdsSeaAndWant) {
            Scene told = Scene.fresh().with("set(1, " + one[0] + ")", "set(0, " + one[1] + ")");
            told.does("days(10)", 0).asks("count(3)", one[2]);
        }
    }

    /** "Last on a RENT DAY (on no other DAY)". */
    private static void birdsChangeOnRentDaysAlone() {
        Scene nobody = Scene.isle("s7;b20;");
        nobody.with("days(9)").asks("count(3)", 20);
        nobody.with("days(10)").asks("count(3)", 24);
        nobody.with("days(11)").asks("count(3)", 24);
        nobody.with("days(19)").asks("count(3)", 24);
        nobody.with("days(20)").asks("count(3)", 28);
    }

    /** "Last ... BIRDS are SEA more": the rent is paid by BIRDS as they were. */
    private static void birdsChangeLast() {
        // 10 birds: the clerk owes 9; by 7 birds he would owe 8 and not be taken all from.
        Scene clerk = Scene.isle(EVE + "b10;t3020;d01;");
        clerk.asks("tenant(0, 2)", 10).asks("tenant(0, 3)", 0).asks("count(3)", 7).asks("tenant(0, 5)", 8);
        Scene more = Scene.isle("s9;d09;b49;t2450;d01;");
        more.asks("tenant(0, 3)", 0).asks("count(3)", 55);
        Scene.isle("s9;d09;b48;t2450;d01;").asks("tenant(0, 3)", 1).asks("count(3)", 54);
    }
}
