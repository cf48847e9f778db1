import java.util.ArrayList;
import java.util.List;

/**
 * "REFUSALS (answers; nothing changes)", "Answers of several REFUSALS are the first one as they are told at the call":
 * each number that a call takes, on both sides of both its bounds, alone and two at once.
 */
public final class RefusalsTest {
    private static final String LONG_REFUSAL = "1000000001";
    private static final String NO_SHELF = "throws.IllegalArgumentException";
    private static final String NO_PLACE = "throws.IllegalStateException";
    /** As the document tells them at any call. */
    private static final String[] ORDER = {"-1", LONG_REFUSAL, NO_SHELF, "-2", "-3", "-11", "-12", "-13", "-14", NO_PLACE};

    /** Room for one more; a row of three bytes on every shelf, or one on every shelf. */
    private static final Scene ROWS = sixOnTheIsle(true);
    private static final Scene ONES = sixOnTheIsle(false);

    public static void main(String[] args) {
        isleAsTold();
        daysOn();
        whatIsBest();
        kindsAndSeas();
        ledgersAndYears();
        shelves();
        orderOfComes();
        orderOfLends();
        orderOfDays();
        Check.end();
    }

    private static Scene sixOnTheIsle(boolean rows) {
        Scene scene = Scene.isle("t7050;t0050;t1950;t2050;t5350;t4050;w11;d03;").with("image()", "days(1)");
        for (int d = 0; d < 8; d++) {
            scene = rows ? scene.holdsRow(d, 0, d + 1, 52, -128) : scene.holdsOne(d, d, d + 1);
        }
        return scene;
    }

    private static void isleAsTold() {
        call(ROWS, "isle").takes(0, 0, 7, "-1").tried();
        call(ROWS, "tenant").takes(2, 0, 5, "-1").takes(2, 0, 6, "-1").tried();
        call(ONES, "comes").takes(2, 0, 7, "-1").takes(9, 0, 99, "-1").tried();
        call(ROWS, "stores").takes(2, 0, 5, "-1").takes(9, 0, 99, "-1").tried();
        call(ROWS, "set").takes(0, 0, 1, "-1").takes(5, 0, 9, "-1").tried();
        call(ROWS, "set").only(1).takes(5, 0, 99, "-1").tried();
        call(ROWS, "lends").takes(2, 0, 5, "-1").only(3).takes(9, 1, 99, "-1").tried();
        call(ROWS, "lends").only(3).takes(2, 0, 5, "-1").takes(9, 1, 99, "-1").tried();
        call(ROWS, "days").takes(9, 1, 60, "-1").tried();
    }

    private static void daysOn() {
        call(ROWS, "tenantThen").takes(2, 0, 5, "-1").takes(9, 0, 60, "-1").takes(0, 0, 1, "-1").tried();
        call(ROWS, "then").takes(9, 0, 60, "-1").takes(0, 0, 1, "-1").tried();
        call(ROWS, "goes").takes(2, -1, 5, "-1").tried();
        call(ROWS, "rent").takes(0, 0, 1, "-1").tried();
    }

    private static void whatIsBest() {
        call(ROWS, "bestSea").takes(9, 0, 60, "-1").takes(0, 0, 1, "-1").tried();
        call(ROWS, "leastStore").takes(2, 0, 5, "-1").tried();
        call(ROWS, "lend").takes(2, 0, 5, "-1").only(3).tried();
        call(ROWS, "lend").only(3).takes(2, 0, 5, "-1").tried();
        call(ROWS, "send").takes(9, 0, 60, "-1").takes(0, 0, 1, "-1").tried();
        call(ROWS, "richest").takes(0, 0, 6, "-1").tried();
    }

    private static void kindsAndSeas() {
        call(ROWS, "whatIs").takes(3, 0, 7, "-1").takes(2, 0, 5, "-1").takes(0, 0, 1, "-1").tried();
        call(ROWS, "whichSea").takes(3, 0, 7, "-1").tried();
        call(ROWS, "two").takes(2, 0, 5, "-1").only(3).takes(9, 1, 60, "-1").tried();
        call(ROWS, "two").only(3).takes(2, 0, 5, "-1").takes(9, 1, 60, "-1").tried();
        call(ROWS, "storms").takes(2, 0, 5, LONG_REFUSAL).takes(3, 0, 7, LONG_REFUSAL).takes(4, 2, 20, LONG_REFUSAL)
            .takes(9, 0, 99, LONG_REFUSAL).takes(0, 0, 1, LONG_REFUSAL).tried();
        call(ROWS, "share").takes(2, 0, 5, LONG_REFUSAL).takes(0, 0, 1, LONG_REFUSAL).tried();
    }

    private static void ledgersAndYears() {
        call(ROWS, "forged").takes(3, 0, 7, "-1").tried();
        call(ROWS, "judge").takes(3, 0, 7, "-1").tried();
        call(ROWS, "years").takes(3, 1, 20, "-1").only(-77).takes(0, 0, 1, "-1").tried();
        call(ROWS, "count").takes(0, 0, 5, "-1").tried();
    }

    private static void shelves() {
        call(ROWS, "keep").takes(3, 0, 7, "-1").only(1).takes(3, 0, 7, "-1").takes(4, 0, 9, "-1").tried();
        call(ROWS, "keep").takes(3, 0, 7, "-1").takes(1, 0, 1, "-1").only(2).only(2).tried();
        call(ROWS, "row").takes(3, 0, 7, "-1").takes(1, 0, 2, "-1").takes(5, 0, 100, "-14", "-1").tried();
        call(ROWS, "put").takes(3, 0, 7, "-1").takes(1, 0, 2, "-13").only(300).tried();
        call(ROWS, "element").takes(3, 0, 7, NO_SHELF).takes(1, 0, 2, NO_PLACE).tried();
        call(ROWS, "copy").takes(3, 0, 7, "-1").takes(0, 0, 2, "-13").takes(4, 0, 7, "-1").takes(0, 0, 2, "-13")
            .takes(1, 0, 3, "-13").tried();
        call(ONES, "cost").takes(3, 0, 7, "-1").tried();
        call(ONES, "toss").takes(3, 0, 7, "-1").tried();
    }

    /** "-1, -11, -12 (a ROW), -2." */
    private static void orderOfComes() {
        Scene shelves = Scene.isle("t7001;t7002;t7003;t7004;t7005;t7006;").holdsOne(0, 1, 1).holdsRow(1, 0, 5);
        Scene full = shelves.comesTrue("t7007;");
        shelves.does("comes(0, 0)", 6).asks("tenant(6, 0)", 1);
        shelves.refused("comes(1, 10)", -12).refused("comes(2, 10)", -11);
        full.refused("comes(0, 10)", -2).refused("comes(1, 10)", -12).refused("comes(2, 10)", -11);
        for (int d = -1; d <= 8; d++) {
            full.refused("comes(" + d + ", -1)", -1).refused("comes(" + d + ", 100)", -1);
        }
        full.refused("comes(-1, 10)", -1).refused("comes(8, 10)", -1);
    }

    /** "-1 (one twice), -3 it can not be." */
    private static void orderOfLends() {
        Scene gone = Scene.isle("t0000;t7000;t7000;s0;d20;f050;f150;f250;");
        gone.does("lends(1, 2, 49)", 1).asks("tenant(2, 2)", 99);
        gone.refused("lends(1, 2, 50)", -3).refused("lends(1, 2, 51)", -3);
        gone.refused("lends(0, 1, 1)", -3).refused("lends(1, 0, 1)", -3);
        gone.refused("lends(0, 0, 1)", -1).refused("lends(1, 1, 1)", -1).refused("lends(1, 1, 99)", -1);
        gone.refused("lends(0, 1, 0)", -1).refused("lends(1, 0, 100)", -1).refused("lends(0, 3, 1)", -1);
        gone.refused("lends(3, 0, 1)", -1).refused("lends(1, 2, 0)", -1).refused("lends(1, 2, 100)", -1);
        Scene all = Scene.isle("t0099;t0000;");
        all.does("lends(0, 1, 99)", 0).asks("tenant(1, 2)", 99).refused("lends(0, 1, 1)", -3);
        all.does("lends(0, 1, 1)", 98);
        all.refused("lends(1, 0, 1)", -3);
        // The first has 49 and no more; the second may have 99 and no more.
        Scene.isle("t0049;t0000;").does("lends(0, 1, 49)", 0);
        Scene.isle("t0049;t0000;").refused("lends(0, 1, 50)", -3);
        Scene.isle("t0099;t0098;").does("lends(0, 1, 1)", 98);
        Scene.isle("t0099;t0098;").refused("lends(0, 1, 2)", -3);
        Scene.isle("t0099;t0099;").refused("lends(0, 1, 1)", -3);
    }

    /** "-1, -3 DAY above 999." */
    private static void orderOfDays() {
        Scene end = Scene.isle("d60;d60;d60;d60;d60;d60;d60;d60;d60;d60;d60;d60;d60;d60;d60;d60;d39;");
        end.refused("days(1)", -3).refused("days(60)", -3);
        end.refused("days(0)", -1).refused("days(61)", -1).refused("days(" + Integer.MAX_VALUE + ")", -1);
        end.refused("days(" + Integer.MIN_VALUE + ")", -1);
    }

    private static Call call(Scene scene, String name) {
        return new Call(scene, name);
    }

    /** A call by its name and the numbers that it takes. */
    private static final class Call {
        private final Scene scene;
        private final String name;
        private final List<Integer> plain = new ArrayList<>();
        /** {low, high} of each; null, if it is not tried here. */
        private final List<int[]> bounds = new ArrayList<>();
        /** What is answered below and above. */
        private final List<String[]> answers = new ArrayList<>();

        Call(Scene scene, String name) {
            this.scene = scene;
            this.name = name;
        }

        Call takes(int usual, int low, int high, String below, String above) {
            plain.add(usual);
            bounds.add(new int[] {low, high});
            answers.add(new String[] {below, above});
            return this;
        }

        Call takes(int usual, int low, int high, String refusal) {
            return takes(usual, low, high, refusal, refusal);
        }

        Call only(int usual) {
            plain.add(usual);
            bounds.add(null);
            answers.add(null);
            return this;
        }

        void tried() {
            for (int i = 0; i < plain.size(); i++) {
                if (bounds.get(i) != null) {
                    takenAt(i, bounds.get(i)[0]);
                    takenAt(i, bounds.get(i)[1]);
                    for (int[] out : outOf(i)) {
                        refusedAt(i, out);
                        twoAtOnce(i, out);
                    }
                }
            }
        }

        /** Numbers out of the bounds of the ith: {the number, 0 below or 1 above}. */
        private int[][] outOf(int i) {
            return new int[][] {{bounds.get(i)[0] - 1, 0}, {bounds.get(i)[1] + 1, 1}, {Integer.MIN_VALUE, 0},
                {Integer.MAX_VALUE, 1}};
        }

        private void takenAt(int i, int value) {
            List<Integer> arguments = new ArrayList<>(plain);
            arguments.set(i, value);
            String answer = scene.answer(written(arguments));
            for (String refusal : answers.get(i)) {
                Check.due(written(arguments) + " is taken, answered " + answer, answer.equals(refusal) ? 1 : 0, 0);
            }
        }

        private void refusedAt(int i, int[] out) {
            List<Integer> arguments = new ArrayList<>(plain);
            arguments.set(i, out[0]);
            scene.leavesAll(written(arguments), answers.get(i)[out[1]]);
        }

        private void twoAtOnce(int i, int[] out) {
            for (int j = i + 1; j < plain.size(); j++) {
                if (bounds.get(j) != null) {
                    for (int[] other : outOf(j)) {
                        List<Integer> arguments = new ArrayList<>(plain);
                        arguments.set(i, out[0]);
                        arguments.set(j, other[0]);
                        scene.leavesAll(written(arguments), first(answers.get(i)[out[1]], answers.get(j)[other[1]]));
                    }
                }
            }
        }

        private static String first(String one, String other) {
            for (String refusal : ORDER) {
                if (refusal.equals(one) || refusal.equals(other)) {
                    return refusal;
                }
            }
            return one;
        }

        private String written(List<Integer> arguments) {
            String inside = arguments.toString();
            return name + "(" + inside.substring(1, inside.length() - 1) + ")";
        }
    }
}
