/** Promises 28 to 37, THE IMAGE, counts and SHELVES: a test for each sentence that names a bound. */
public final class ShelfEdgesTest {
    private static final int LEAST = Integer.MIN_VALUE;
    private static final int GREATEST = Integer.MAX_VALUE;

    public static void main(String[] args) {
        imageOfAllButShelves();
        imageOnceMore();
        restoreWithoutImage();
        imageOfAnEmptyIsle();
        countFrom0To5();
        shelvesHoldNothingAtFirst();
        keepNothing();
        keepOne();
        rowFrom0To100();
        rowSorts();
        rowOfZeros();
        putKeepsLowestBits();
        putPlaces();
        elementPlaces();
        elementOfNoRow();
        copyPlaces();
        copyNone();
        copyInOneRow();
        copyRefused();
        copyOfHugeNumbers();
        takenFromAShelfStays();
        costByFigures();
        costRefused();
        tossByFigures();
        tossRefused();
        lastOf512Calls();
        Check.end();
    }

    /** "THE IMAGE: all that there is, but SHELVES (and THE IMAGE); RESTORED all is as it was then." */
    private static void imageOfAllButShelves() {
        Scene taken = Scene.isle("t0018;t1912;t5333;w11;s1;b77;d07;").holdsRow(1, 1, 5, 6).does("image()", 7);
        Scene changed = taken.holdsRow(1, 2, 7).holdsOne(2, 6, 5).comesTrue("s9;b01;f000;w10;w01;t7000;d25;");
        Scene back = changed.does("restore()", 7);
        int[] counts = {3, 7, 1, 77, 7};
        for (int what = 0; what < counts.length; what++) {
            back.asks("count(" + what + ")", counts[what]);
        }
        for (int t = 0; t < 3; t++) {
            back.asks("tenant(" + t + ", 3)", t == 1 ? 1 : 0).asks("tenant(" + t + ", 4)", 1);
        }
        back.asks("tenant(0, 2)", 18).refused("tenant(3, 0)", -1);
        back.asks("element(1, 0)", 7).thrown("element(1, 1)", "IllegalStateException").asks("cost(2)", 10);
        // Who went since is THERE again, who came since is not.
        Scene gone = Scene.isle("t0000;s0;").with("image()").comesTrue("d20;t7000;");
        gone.asks("count(4)", 2).does("restore()", 0).asks("count(4)", 1).asks("count(0)", 1).asks("tenant(0, 3)", 0);
    }

    /** THE IMAGE is kept when it is RESTORED, and only the one taken last is. */
    private static void imageOnceMore() {
        Scene twice = Scene.isle("d03;").does("image()", 3).with("days(4)").does("image()", 7).with("days(4)");
        Scene back = twice.does("restore()", 7);
        back.asks("count(1)", 7).with("days(60)").does("restore()", 7).asks("count(1)", 7);
        back.does("restore()", 7).does("image()", 7);
        twice.asks("count(1)", 11);
    }

    /** "-3 there is none." */
    private static void restoreWithoutImage() {
        Scene.fresh().refused("restore()", -3);
        Scene.isle("t0010;d05;").refused("restore()", -3).does("image()", 5).does("restore()", 5);
    }

    private static void imageOfAnEmptyIsle() {
        Scene back = Scene.fresh().does("image()", 0).comesTrue("t0010;s9;b99;d01;").does("restore()", 0);
        back.asks("count(0)", 0).asks("count(2)", 3).asks("count(3)", 40).refused("tenant(0, 0)", -1);
    }

    /** "0 TENANTS, .. 5 STORES of those THERE; -1 for others". */
    private static void countFrom0To5() {
        Scene one = Scene.isle("t0000;t7000;s0;d20;f099;f133;b44;");
        int[] want = {2, 20, 0, 44, 2, 33};
        for (int what = 0; what < want.length; what++) {
            one.asks("count(" + what + ")", want[what]);
        }
        one.refused("count(-1)", -1).refused("count(6)", -1);
        one.refused("count(" + LEAST + ")", -1).refused("count(" + GREATEST + ")", -1);
    }

    /** "SHELVES 0 .. 7 each hold nothing (at first)". */
    private static void shelvesHoldNothingAtFirst() {
        for (int d = 0; d <= 7; d++) {
            Scene.fresh().refused("put(" + d + ", 0, 0)", -11).refused("comes(" + d + ", 0)", -11);
            Scene.fresh().refused("toss(" + d + ")", -11).refused("copy(" + d + ", 0, " + d + ", 0, 0)", -11);
            // What one shelf gets no other one has.
            Scene one = Scene.fresh().does("keep(" + d + ", 1, 1, 7)", 0);
            Scene row = Scene.fresh().does("row(" + d + ", 0, 2)", 0).does("put(" + d + ", 1, 9)", 0);
            for (int e = 0; e <= 7; e++) {
                one.asks("cost(" + e + ")", d == e ? 10 : -11);
                row.asks("cost(" + e + ")", d == e ? -12 : -11);
            }
        }
    }

    /** "what = 0 nothing (the others do not matter)". */
    private static void keepNothing() {
        Scene shelf = Scene.fresh().holdsOne(0, 3, 4).holdsRow(7, 0, 1, 2);
        shelf.does("keep(0, 0, 0, 0)", 0).refused("cost(0)", -11);
        shelf.does("keep(0, 0, -1, 0)", 0).refused("cost(0)", -11);
        shelf.does("keep(0, 0, 8, 10)", 0).refused("cost(0)", -11);
        shelf.does("keep(7, 0, " + LEAST + ", " + GREATEST + ")", 0).refused("put(7, 0, 1)", -11);
        shelf.does("keep(5, 0, 0, 0)", 0).refused("cost(5)", -11);
        shelf.refused("keep(-1, 0, 0, 0)", -1).refused("keep(8, 0, 0, 0)", -1);
    }

    /** "1 a KIND of TENANT of KIND k with a FIGURE: 0. -1." */
    private static void keepOne() {
        Scene shelf = Scene.fresh().holdsOne(0, 3, 4).holdsRow(7, 0, 1, 2);
        shelf.does("keep(0, 1, 0, 0)", 0).asks("cost(0)", 3);
        shelf.does("keep(7, 1, 6, 9)", 0).asks("cost(7)", 14).thrown("element(7, 0)", "IllegalStateException");
        shelf.refused("keep(-1, 1, 0, 0)", -1).refused("keep(8, 1, 0, 0)", -1);
        shelf.refused("keep(0, -1, 0, 0)", -1).refused("keep(0, 2, 0, 0)", -1).refused("keep(0, 2, 8, 0)", -1);
        shelf.refused("keep(0, 1, -1, 0)", -1).refused("keep(0, 1, 8, 0)", -1);
        shelf.refused("keep(0, 1, 0, -1)", -1).refused("keep(0, 1, 0, 10)", -1);
        shelf.refused("keep(7, 1, 8, 10)", -1).refused("keep(7, 1, " + LEAST + ", 0)", -1);
        shelf.refused("keep(7, 1, 0, " + GREATEST + ")", -1);
    }

    /** "0 .. 100 elements"; "-1 (n above 100); -14". */
    private static void rowFrom0To100() {
        Scene shelf = Scene.fresh().holdsOne(0, 3, 4).holdsRow(7, 1, 300, 2);
        shelf.does("row(0, 0, 0)", 0).thrown("element(0, 0)", "IllegalStateException").refused("put(0, 0, 1)", -13);
        Scene full = shelf.does("row(0, 2, 100)", 0);
        full.asks("element(0, 99)", 0).thrown("element(0, 100)", "IllegalStateException");
        full.does("put(0, 99, 5)", 0).asks("element(0, 99)", 5);
        full.refused("put(0, 100, 5)", -13);
        shelf.does("row(7, 2, 1)", 0).asks("element(7, 0)", 0).thrown("element(7, 1)", "IllegalStateException");
        shelf.refused("row(0, 0, 101)", -1).refused("row(7, 0, 101)", -1).refused("row(0, 0, " + GREATEST + ")", -1);
        shelf.refused("row(0, 0, -1)", -14).refused("row(7, 0, -1)", -14).refused("row(0, 0, " + LEAST + ")", -14);
        shelf.refused("row(-1, 0, 5)", -1).refused("row(8, 0, 5)", -1);
        // Of two refusals the first.
        shelf.refused("row(-1, 0, -1)", -1).refused("row(8, 0, -1)", -1).refused("row(0, 3, -1)", -1);
        shelf.refused("row(0, -1, -1)", -1).refused("row(8, 3, 101)", -1);
    }

    /** "a SORT (0 bytes, 1 shorts, 2 ints)". */
    private static void rowSorts() {
        Scene shelf = Scene.fresh().holdsOne(0, 3, 4).holdsRow(7, 1, 300, 2);
        int[] kept = {0x78, 0x5678, 0x12345678};
        for (int sort = 0; sort <= 2; sort++) {
            shelf.does("row(0, " + sort + ", 1)", 0).does("put(0, 0, " + 0x12345678 + ")", 0).asks("element(0, 0)", kept[sort]);
        }
        shelf.refused("row(0, -1, 1)", -1).refused("row(0, 3, 1)", -1).refused("row(7, 3, 0)", -1);
        shelf.refused("row(7, " + LEAST + ", 0)", -1).refused("row(7, " + GREATEST + ", 0)", -1);
    }

    /** "0 at first": whatever the shelf held ahead of it. */
    private static void rowOfZeros() {
        Scene full = Scene.fresh().holdsRow(0, 2, 1, 2, 3, 4, 5);
        Scene again = full.does("row(0, 2, 5)", 0);
        Scene behind = full.holdsNothing(0).does("row(0, 0, 5)", 0);
        Scene.fresh().with("row(0, 2, 100)", "put(0, 99, 7)").does("row(0, 2, 100)", 0).asks("element(0, 99)", 0);
        Scene lessThenMore = full.does("row(0, 2, 2)", 0).does("row(0, 2, 5)", 0);
        for (int i = 0; i < 5; i++) {
            again.asks("element(0, " + i + ")", 0);
            behind.asks("element(0, " + i + ")", 0);
            lessThenMore.asks("element(0, " + i + ")", 0);
        }
    }

    /** "what is put in keeps its lowest bits". */
    private static void putKeepsLowestBits() {
        long[][] putBytesShorts = {
            {0, 0, 0}, {-1, -1, -1}, {127, 127, 127}, {128, -128, 128}, {-128, -128, -128}, {-129, 127, -129}, {255, -1, 255},
            {256, 0, 256}, {-256, 0, -256}, {32767, -1, 32767}, {32768, 0, -32768}, {-32768, 0, -32768}, {-32769, -1, 32767},
            {65535, -1, -1}, {65536, 0, 0}, {65663, 127, 127}, {65664, -128, 128}, {GREATEST, -1, -1}, {LEAST, 0, 0}};
        Scene rows = Scene.fresh().with("row(0, 0, 1)", "row(1, 1, 1)", "row(2, 2, 1)");
        for (long[] one : putBytesShorts) {
            rows.does("put(0, 0, " + one[0] + ")", 0).asks("element(0, 0)", one[1]);
            rows.does("put(1, 0, " + one[0] + ")", 0).asks("element(1, 0)", one[2]);
            rows.does("put(2, 0, " + one[0] + ")", 0).asks("element(2, 0)", one[0]);
        }
    }

    /** "-1, -11, -12, -13." */
    private static void putPlaces() {
        Scene shelf = Scene.fresh().holdsRow(0, 0, 1, 2, 3).holdsOne(1, 0, 0).holdsRow(7, 0, 4);
        shelf.does("put(0, 0, 9)", 0).asks("element(0, 0)", 9).asks("element(0, 1)", 2);
        shelf.does("put(0, 2, 9)", 0).asks("element(0, 2)", 9).asks("element(0, 1)", 2);
        shelf.does("put(7, 0, 9)", 0).asks("element(7, 0)", 9);
        shelf.refused("put(0, -1, 9)", -13).refused("put(0, 3, 9)", -13).refused("put(7, 1, 9)", -13);
        shelf.refused("put(0, " + LEAST + ", 9)", -13).refused("put(0, " + GREATEST + ", 9)", -13);
        shelf.refused("put(-1, 0, 9)", -1).refused("put(8, 0, 9)", -1);
        shelf.refused("put(2, 0, 9)", -11).refused("put(1, 0, 9)", -12);
        // Of two refusals the first.
        shelf.refused("put(-1, -1, 9)", -1).refused("put(8, 3, 9)", -1);
        shelf.refused("put(2, -1, 9)", -11).refused("put(1, -1, 9)", -12).refused("put(1, 100, 9)", -12);
    }

    /** "IllegalStateException: ... no such place." */
    private static void elementPlaces() {
        Scene shelf = Scene.fresh().holdsRow(0, 2, LEAST, 2, GREATEST).holdsRow(7, 0, 4);
        shelf.asks("element(0, 0)", LEAST).asks("element(0, 2)", GREATEST).asks("element(7, 0)", 4);
        shelf.thrown("element(0, -1)", "IllegalStateException").thrown("element(0, 3)", "IllegalStateException");
        shelf.thrown("element(0, 99)", "IllegalStateException").thrown("element(0, 100)", "IllegalStateException");
        shelf.thrown("element(0, " + LEAST + ")", "IllegalStateException");
        shelf.thrown("element(0, " + GREATEST + ")", "IllegalStateException");
        shelf.thrown("element(7, 1)", "IllegalStateException");
        shelf.with("row(0, 2, 0)").thrown("element(0, 0)", "IllegalStateException");
    }

    /** "IllegalArgumentException: no such SHELF; IllegalStateException: no ROW": the first of the two. */
    private static void elementOfNoRow() {
        Scene shelf = Scene.fresh().holdsRow(0, 2, 1).holdsOne(1, 0, 0);
        shelf.thrown("element(-1, 0)", "IllegalArgumentException").thrown("element(8, 0)", "IllegalArgumentException");
        shelf.thrown("element(" + LEAST + ", 0)", "IllegalArgumentException");
        shelf.thrown("element(" + GREATEST + ", 0)", "IllegalArgumentException");
        shelf.thrown("element(8, -1)", "IllegalArgumentException").thrown("element(-1, 100)", "IllegalArgumentException");
        shelf.thrown("element(1, 0)", "IllegalStateException").thrown("element(1, -1)", "IllegalStateException");
        shelf.thrown("element(7, 0)", "IllegalStateException").thrown("element(2, 0)", "IllegalStateException");
    }

    /** Five elements on shelf 0, three on shelf 7. */
    private static Scene rows() {
        return Scene.fresh().holdsRow(0, 1, 1, 2, 3, 4, 5).holdsRow(7, 1, 11, 12, 13);
    }

    private static void dueRow(Scene scene, int d, int... want) {
        for (int i = 0; i < want.length; i++) {
            scene.asks("element(" + d + ", " + i + ")", want[i]);
        }
        scene.thrown("element(" + d + ", " + want.length + ")", "IllegalStateException");
    }

    /** "n elements of the ROW in SHELF d from i on come to that in SHELF e from j on: n"; "-13 (n below 0, too)". */
    private static void copyPlaces() {
        Scene all = rows().does("copy(0, 0, 7, 0, 3)", 3);
        dueRow(all, 7, 1, 2, 3);
        dueRow(all, 0, 1, 2, 3, 4, 5);
        dueRow(rows().does("copy(0, 2, 7, 0, 3)", 3), 7, 3, 4, 5);
        dueRow(rows().does("copy(0, 4, 7, 2, 1)", 1), 7, 11, 12, 5);
        dueRow(rows().does("copy(7, 0, 0, 2, 3)", 3), 0, 1, 2, 11, 12, 13);
        rows().refused("copy(0, 0, 7, 0, 4)", -13).refused("copy(0, 3, 7, 0, 3)", -13).refused("copy(0, 0, 7, 1, 3)", -13);
        rows().refused("copy(7, 0, 0, 0, 4)", -13).refused("copy(7, 1, 0, 0, 3)", -13).refused("copy(7, 0, 0, 3, 3)", -13);
        rows().refused("copy(0, -1, 7, 0, 1)", -13).refused("copy(0, 0, 7, -1, 1)", -13);
        rows().refused("copy(0, 5, 7, 0, 1)", -13).refused("copy(0, 0, 7, 3, 1)", -13);
        rows().refused("copy(0, 0, 7, 0, -1)", -13).refused("copy(0, 1, 7, 1, -1)", -13).refused("copy(0, 5, 7, 3, -1)", -13);
        Scene full = Scene.fresh().with("row(0, 0, 100)", "row(1, 0, 100)", "put(0, 99, 7)");
        full.does("copy(0, 0, 1, 0, 100)", 100).asks("element(1, 99)", 7);
        full.refused("copy(0, 0, 1, 0, 101)", -13);
    }

    /** n 0: from and to a place that is there, or the end; nothing is copied. */
    private static void copyNone() {
        rows().asks("copy(0, 0, 7, 0, 0)", 0).asks("copy(0, 5, 7, 3, 0)", 0).asks("copy(0, 4, 7, 2, 0)", 0);
        rows().refused("copy(0, 6, 7, 0, 0)", -13).refused("copy(0, 0, 7, 4, 0)", -13);
        rows().refused("copy(0, -1, 7, 0, 0)", -13).refused("copy(0, 0, 7, -1, 0)", -13);
        Scene empty = Scene.fresh().with("row(0, 0, 0)", "row(1, 0, 0)");
        empty.asks("copy(0, 0, 1, 0, 0)", 0).refused("copy(0, 0, 1, 0, 1)", -13).refused("copy(0, 1, 1, 0, 0)", -13);
    }

    /** d and e may be one SHELF: what comes is what was there ahead of it. */
    private static void copyInOneRow() {
        dueRow(rows().does("copy(0, 0, 0, 1, 4)", 4), 0, 1, 1, 2, 3, 4);
        dueRow(rows().does("copy(0, 1, 0, 0, 4)", 4), 0, 2, 3, 4, 5, 5);
        dueRow(rows().does("copy(0, 0, 0, 0, 5)", 5), 0, 1, 2, 3, 4, 5);
        dueRow(rows().does("copy(0, 0, 0, 3, 2)", 2), 0, 1, 2, 3, 1, 2);
        rows().refused("copy(0, 0, 0, 1, 5)", -13).refused("copy(0, 1, 0, 0, 5)", -13);
    }

    /** "-1, -11 (either), -12 (no ROWS of one SORT), -13": of several the first. */
    private static void copyRefused() {
        Scene shelf = rows().holdsOne(1, 0, 0).holdsRow(2, 0, 1, 2, 3).holdsRow(3, 2, 1, 2, 3);
        shelf.refused("copy(-1, 0, 0, 0, 1)", -1).refused("copy(8, 0, 0, 0, 1)", -1);
        shelf.refused("copy(0, 0, -1, 0, 1)", -1).refused("copy(0, 0, 8, 0, 1)", -1);
        shelf.refused("copy(5, 0, 7, 0, 1)", -11).refused("copy(0, 0, 5, 0, 1)", -11).refused("copy(5, 0, 6, 0, 1)", -11);
        shelf.refused("copy(1, 0, 7, 0, 1)", -12).refused("copy(0, 0, 1, 0, 1)", -12).refused("copy(1, 0, 1, 0, 1)", -12);
        shelf.refused("copy(0, 0, 2, 0, 1)", -12).refused("copy(2, 0, 0, 0, 1)", -12);
        shelf.refused("copy(0, 0, 3, 0, 1)", -12).refused("copy(3, 0, 2, 0, 1)", -12);
        // A shelf that holds one held a row of that sort ahead of it.
        Scene was = rows().holdsRow(1, 1, 1, 2, 3).holdsOne(1, 0, 0);
        was.refused("copy(1, 0, 7, 0, 1)", -12).refused("copy(0, 0, 1, 0, 1)", -12).refused("copy(1, 0, 1, 0, 1)", -12);
        shelf.refused("copy(1, 0, 2, 0, 1)", -12).refused("copy(2, 0, 1, 0, 1)", -12);
        // A shelf that is none ahead of one that holds nothing, that ahead of one of another kind, that of a place.
        shelf.refused("copy(5, 0, 8, 0, 1)", -1).refused("copy(8, 0, 5, 0, 1)", -1).refused("copy(1, 0, 8, 0, 1)", -1);
        shelf.refused("copy(0, -1, 8, 0, 1)", -1).refused("copy(-1, 0, 0, 0, -1)", -1);
        shelf.refused("copy(1, 0, 5, 0, 1)", -11).refused("copy(5, 0, 1, 0, 1)", -11);
        shelf.refused("copy(0, 0, 5, 0, -1)", -11).refused("copy(5, -1, 0, 0, 1)", -11);
        shelf.refused("copy(0, 0, 1, 0, -1)", -12).refused("copy(1, 9, 0, 0, 1)", -12);
        shelf.refused("copy(0, 0, 2, 0, 4)", -12).refused("copy(0, 0, 3, 0, -1)", -12).refused("copy(0, -1, 3, 0, 0)", -12);
    }

    /** Numbers by which a sum would be no int. */
    private static void copyOfHugeNumbers() {
        rows().refused("copy(0, 0, 7, 0, " + GREATEST + ")", -13).refused("copy(0, 1, 7, 1, " + GREATEST + ")", -13);
        rows().refused("copy(0, " + GREATEST + ", 7, 0, 1)", -13).refused("copy(0, 0, 7, " + GREATEST + ", 1)", -13);
        rows().refused("copy(0, " + GREATEST + ", 7, 0, " + GREATEST + ")", -13);
        rows().refused("copy(0, " + LEAST + ", 7, 0, " + LEAST + ")", -13).refused("copy(0, 0, 7, 0, " + LEAST + ")", -13);
        rows().refused("copy(0, " + LEAST + ", 7, 0, 1)", -13).refused("copy(0, 0, 7, " + LEAST + ", 1)", -13);
    }

    /** "what is taken from a SHELF, stay there". */
    private static void takenFromAShelfStays() {
        Scene come = Scene.fresh().holdsOne(0, 5, 9).does("comes(0, 10)", 0).does("comes(0, 11)", 1);
        come.asks("cost(0)", 24).asks("toss(0)", 109).asks("tenant(1, 0)", 5).asks("tenant(1, 1)", 9);
        // And what the shelf gets then does not change who has come.
        come.holdsOne(0, 7, 1).asks("tenant(0, 0)", 5).asks("tenant(0, 1)", 9).asks("cost(0)", 0);
        come.holdsNothing(0).asks("tenant(0, 0)", 5);
    }

    /** COST "of the one on SHELF d". */
    private static void costByFigures() {
        int[][] kindAndCosts = {{0, 3, 3}, {1, 3, 12}, {2, 1, 1}, {3, 5, 5}, {4, 0, 0}, {5, 6, 24}, {6, 5, 14}, {7, 0, 0}};
        for (int[] one : kindAndCosts) {
            Scene.fresh().holdsOne(0, one[0], 0).asks("cost(0)", one[1]);
            Scene.fresh().holdsOne(7, one[0], 9).asks("cost(7)", one[2]);
        }
    }

    /** "-1, -11, -12 (a ROW)." */
    private static void costRefused() {
        Scene shelf = Scene.fresh().holdsOne(0, 1, 5).holdsRow(1, 0, 1).holdsRow(2, 2);
        shelf.refused("cost(-1)", -1).refused("cost(8)", -1).refused("cost(7)", -11);
        shelf.refused("cost(1)", -12).refused("cost(2)", -12).asks("cost(0)", 8);
    }

    /** "of BOATMEN 100 more ...; of LAWYERS 200 plus their COST, in place of all that"; "-15 ... any with FIGURE 0". */
    private static void tossByFigures() {
        int[][] kindAndTosses = {{0, 1, 9}, {1, 101, 109}, {2, -15, -15}, {3, 1, 9}, {4, -15, -15}, {5, 101, 109},
            {6, 206, 214}, {7, -15, -15}};
        for (int[] one : kindAndTosses) {
            Scene.fresh().holdsOne(0, one[0], 0).asks("toss(0)", -15);
            Scene.fresh().holdsOne(0, one[0], 1).asks("toss(0)", one[1]);
            Scene.fresh().holdsOne(7, one[0], 9).asks("toss(7)", one[2]);
        }
    }

    /** "-1, -11, -12 (a ROW); -15". */
    private static void tossRefused() {
        Scene shelf = Scene.fresh().holdsOne(0, 1, 5).holdsRow(1, 0, 1).holdsRow(2, 2);
        shelf.refused("toss(-1)", -1).refused("toss(8)", -1).refused("toss(7)", -11);
        shelf.refused("toss(1)", -12).refused("toss(2)", -12).asks("toss(0)", 105);
    }

    /** "An object is used for at most 512 calls": the last of them is answered as any other. */
    private static void lastOf512Calls() {
        LetByTheBirds x = new LetByTheBirds();
        x.keep(0, 1, 7, 0);
        x.comes(0, 42);
        for (int call = 3; call <= 510; call++) {
            Check.due("call " + call, x.stores(0, call % 100), call == 3 ? 42 : (call - 1) % 100);
        }
        Check.due("call 511", x.stores(0, 43), 10);
        Check.due("call 512", x.tenantThen(0, 60, 0), 43);
    }
}
