/** Promises 31 to 37: shelves. */
public final class ShelfTest {
    public static void main(String[] args) {
        keeps();
        rows();
        puts();
        elements();
        copies();
        copiesRefused();
        costs();
        tosses();
        Check.end();
    }

    private static void keeps() {
        LetByTheBirds x = new LetByTheBirds();
        Check.due("keep", x.keep(0, 1, 7, 9), 0);
        Check.due("keep", x.keep(7, 1, 0, 0), 0);
        Check.due("no such shelf", x.keep(8, 1, 0, 0), -1);
        Check.due("no such shelf", x.keep(-1, 0, 0, 0), -1);
        Check.due("no such kind", x.keep(0, 1, 8, 0), -1);
        Check.due("no such kind", x.keep(0, 1, -1, 0), -1);
        Check.due("no such figure", x.keep(0, 1, 0, 10), -1);
        Check.due("no such figure", x.keep(0, 1, 0, -1), -1);
        Check.due("what 2", x.keep(0, 2, 0, 0), -1);
        Check.due("what -1", x.keep(0, -1, 0, 0), -1);
        Check.due("it is still there", x.comes(0, 10), 0);
        Check.due("of its kind", x.tenant(0, 0), 7);
        Check.due("and figure", x.tenant(0, 1), 9);
        Check.due("nothing, the others do not matter", x.keep(0, 0, -5, 77), 0);
        Check.due("nothing is there", x.comes(0, 10), -11);
    }

    private static void rows() {
        LetByTheBirds x = new LetByTheBirds();
        Check.due("row", x.row(0, 0, 0), 0);
        Check.dueElement(x, 0, 0, "IllegalStateException");
        Check.due("row", x.row(0, 2, 100), 0);
        Check.dueElement(x, 0, 99, "0");
        Check.dueElement(x, 0, 100, "IllegalStateException");
        Check.due("above 100", x.row(0, 0, 101), -1);
        Check.due("below 0", x.row(0, 0, -1), -14);
        Check.due("far below 0", x.row(0, 0, Integer.MIN_VALUE), -14);
        Check.due("no such shelf", x.row(8, 0, 1), -1);
        Check.due("no such shelf, below 0", x.row(-1, 0, -1), -1);
        Check.due("no such sort", x.row(0, 3, 1), -1);
        Check.due("no such sort, below 0", x.row(0, -1, -1), -1);
        Check.dueElement(x, 0, 99, "0");
        x.put(0, 5, 77);
        Check.due("a new row", x.row(0, 2, 10), 0);
        Check.dueElement(x, 0, 5, "0");
        x.put(0, 5, 77);
        x.keep(0, 0, 0, 0);
        Check.due("a row where nothing was", x.row(0, 2, 10), 0);
        Check.dueElement(x, 0, 5, "0");
    }

    private static void puts() {
        LetByTheBirds x = new LetByTheBirds();
        Check.due("no such shelf", x.put(8, 0, 0), -1);
        Check.due("no such shelf", x.put(-1, 0, 0), -1);
        Check.due("nothing there", x.put(0, 0, 0), -11);
        x.keep(0, 1, 0, 0);
        Check.due("one is there", x.put(0, 0, 0), -12);
        x.row(0, 0, 3);
        Check.due("no such place", x.put(0, 3, 0), -13);
        Check.due("no such place", x.put(0, -1, 0), -13);
        int[] values = {127, 128, 255, 256, -129, 65535, 32768, -32769, Integer.MAX_VALUE, Integer.MIN_VALUE};
        for (int v : values) {
            x.row(0, 0, 1);
            x.row(1, 1, 1);
            x.row(2, 2, 1);
            for (int d = 0; d < 3; d++) {
                Check.due("put", x.put(d, 0, v), 0);
            }
            Check.dueElement(x, 0, 0, Integer.toString((byte) v));
            Check.dueElement(x, 1, 0, Integer.toString((short) v));
            Check.dueElement(x, 2, 0, Integer.toString(v));
        }
    }

    private static void elements() {
        LetByTheBirds x = new LetByTheBirds();
        Check.dueElement(x, -1, 0, "IllegalArgumentException");
        Check.dueElement(x, 8, 0, "IllegalArgumentException");
        Check.dueElement(x, 8, -1, "IllegalArgumentException");
        Check.dueElement(x, 0, 0, "IllegalStateException");
        x.keep(0, 1, 0, 0);
        Check.dueElement(x, 0, 0, "IllegalStateException");
        Check.fill(x, 0, 1, 4, -5, 6);
        Check.dueElement(x, 0, 0, "4");
        Check.dueElement(x, 0, 1, "-5");
        Check.dueElement(x, 0, 2, "6");
        Check.dueElement(x, 0, 3, "IllegalStateException");
        Check.dueElement(x, 0, -1, "IllegalStateException");
        Check.dueElement(x, 0, Integer.MAX_VALUE, "IllegalStateException");
    }

    private static void dueRow(LetByTheBirds x, int d, int... want) {
        for (int i = 0; i < want.length; i++) {
            Check.dueElement(x, d, i, Integer.toString(want[i]));
        }
        Check.dueElement(x, d, want.length, "IllegalStateException");
    }

    private static void copies() {
        LetByTheBirds x = new LetByTheBirds();
        Check.fill(x, 0, 0, 1, 2, 3, 4, 5);
        Check.fill(x, 1, 0, 10, 20, 30);
        Check.due("copy", x.copy(0, 3, 1, 0, 2), 2);
        dueRow(x, 1, 4, 5, 30);
        dueRow(x, 0, 1, 2, 3, 4, 5);
        Check.due("up in itself", x.copy(0, 0, 0, 1, 4), 4);
        dueRow(x, 0, 1, 1, 2, 3, 4);
        Check.due("down in itself", x.copy(0, 1, 0, 0, 4), 4);
        dueRow(x, 0, 1, 2, 3, 4, 4);
        Check.due("none, at the ends", x.copy(0, 5, 1, 3, 0), 0);
        Check.due("all", x.copy(1, 0, 0, 2, 3), 3);
        dueRow(x, 0, 1, 2, 4, 5, 30);
    }

    private static void copiesRefused() {
        LetByTheBirds x = new LetByTheBirds();
        Check.due("no such shelf", x.copy(8, 0, 0, 0, 1), -1);
        Check.due("no such shelf", x.copy(0, 0, -1, 0, 1), -1);
        Check.due("nothing there", x.copy(0, 0, 1, 0, 1), -11);
        Check.fill(x, 0, 0, 1, 2, 3, 4, 5);
        Check.due("nothing in the second", x.copy(0, 0, 1, 0, -1), -11);
        Check.due("nothing in the first", x.copy(1, 0, 0, 0, 1), -11);
        x.keep(1, 1, 0, 0);
        Check.due("nothing comes ahead of one", x.copy(1, 0, 2, 0, 1), -11);
        Check.due("one in the second", x.copy(0, 0, 1, 0, -1), -12);
        Check.due("one in the first", x.copy(1, 0, 0, 0, 1), -12);
        Check.due("two ones", x.copy(1, 0, 1, 0, 1), -12);
        x.row(1, 1, 3);
        Check.due("another sort", x.copy(0, 0, 1, 0, 1), -12);
        Check.due("another sort, no place", x.copy(0, 0, 1, 0, 9), -12);
        x.row(1, 0, 3);
        Check.due("n below 0", x.copy(0, 0, 1, 0, -1), -13);
        Check.due("n least", x.copy(0, 0, 1, 0, Integer.MIN_VALUE), -13);
        Check.due("i below 0", x.copy(0, -1, 1, 0, 1), -13);
        Check.due("j below 0", x.copy(0, 0, 1, -1, 1), -13);
        Check.due("beyond the first", x.copy(0, 4, 1, 0, 2), -13);
        Check.due("beyond the second", x.copy(0, 0, 1, 2, 2), -13);
        Check.due("far beyond", x.copy(0, Integer.MAX_VALUE, 1, 0, 1), -13);
        Check.due("far beyond", x.copy(0, 1, 1, 1, Integer.MAX_VALUE), -13);
        Check.due("none, beyond the end", x.copy(0, 6, 1, 0, 0), -13);
        dueRow(x, 0, 1, 2, 3, 4, 5);
        dueRow(x, 1, 0, 0, 0);
    }

    private static void costs() {
        int[] plain = {3, 3, 1, 5, 0, 6, 5, 0};
        int[] byFigure = {0, 1, 0, 0, 0, 2, 1, 0};
        LetByTheBirds x = new LetByTheBirds();
        for (int k = 0; k < 8; k++) {
            for (int figure = 0; figure < 10; figure++) {
                x.keep(4, 1, k, figure);
                Check.due("cost of " + k + " " + figure, x.cost(4), plain[k] + figure * byFigure[k]);
            }
        }
        Check.due("no such shelf", x.cost(-1), -1);
        Check.due("no such shelf", x.cost(8), -1);
        Check.due("nothing there", x.cost(0), -11);
        x.row(0, 0, 0);
        Check.due("a row", x.cost(0), -12);
    }

    private static void tosses() {
        LetByTheBirds x = new LetByTheBirds();
        for (int figure = 1; figure < 10; figure++) {
            int[] want = {figure, 100 + figure, -15, figure, -15, 100 + figure, 205 + figure, -15};
            for (int k = 0; k < 8; k++) {
                x.keep(4, 1, k, figure);
                Check.due("toss of " + k + " " + figure, x.toss(4), want[k]);
            }
        }
        for (int k = 0; k < 8; k++) {
            x.keep(4, 1, k, 0);
            Check.due("toss of " + k + " without a figure", x.toss(4), -15);
        }
        Check.due("no such shelf", x.toss(-1), -1);
        Check.due("no such shelf", x.toss(8), -1);
        Check.due("nothing there", x.toss(0), -11);
        x.row(0, 0, 0);
        Check.due("a row", x.toss(0), -12);
    }
}
