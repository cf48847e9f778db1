/** What the tests share: telling wrong answers, and filling shelves in one line. */
final class Check {
    private static final int TEXT_SHELF = 7;
    private static int wrong = 0;
    private static int asked = 0;

    private Check() {
    }

    static void due(String call, long got, long want) {
        asked++;
        if (got != want) {
            wrong++;
            System.out.println(call + " answered " + got + ", due is " + want);
        }
    }

    /** Ends the test: exit code 1 if an answer was not the one that is due. */
    static void end() {
        System.out.println(asked + " answers asked, " + wrong + " wrong");
        if (wrong != 0 || asked == 0) {
            System.exit(1);
        }
    }

    /** What element() answers, or the name of what it throws. */
    static String element(LetByTheBirds x, int d, int i) {
        try {
            return Long.toString(x.element(d, i));
        } catch (IllegalArgumentException e) {
            return "IllegalArgumentException";
        } catch (IllegalStateException e) {
            return "IllegalStateException";
        }
    }

    static void dueElement(LetByTheBirds x, int d, int i, String want) {
        String got = element(x, d, i);
        due("element(" + d + ", " + i + ") is " + got + ", wanted " + want, got.equals(want) ? 1 : 0, 1);
    }

    static void fill(LetByTheBirds x, int d, int sort, int... values) {
        due("row(" + d + ", " + sort + ", " + values.length + ")", x.row(d, sort, values.length), 0);
        for (int i = 0; i < values.length; i++) {
            due("put(" + d + ", " + i + ", " + values[i] + ")", x.put(d, i, values[i]), 0);
        }
    }

    static void write(LetByTheBirds x, int d, String text) {
        int[] signs = new int[text.length()];
        for (int i = 0; i < signs.length; i++) {
            signs[i] = text.charAt(i);
        }
        fill(x, d, 0, signs);
    }

    static int isle(LetByTheBirds x, String text) {
        write(x, TEXT_SHELF, text);
        return x.isle(TEXT_SHELF);
    }

    static void dueIsle(LetByTheBirds x, String text, int want) {
        due("isle of " + text, isle(x, text), want);
    }

    /** A new object on which this text has come; shelf 7 keeps the text. */
    static LetByTheBirds told(String text) {
        LetByTheBirds x = new LetByTheBirds();
        int statements = 0;
        for (int i = 0; i < text.length(); i++) {
            statements += text.charAt(i) == ';' ? 1 : 0;
        }
        dueIsle(x, text, statements);
        return x;
    }

    /** All that the face tells of an isle as it is now (shelves and image aside). */
    static String state(LetByTheBirds x) {
        StringBuilder all = new StringBuilder();
        for (int what = 0; what < 6; what++) {
            all.append(x.count(what)).append(' ');
        }
        for (int t = 0; t < x.count(0); t++) {
            for (int what = 0; what < 7; what++) {
                all.append(x.tenant(t, what)).append(' ');
            }
        }
        return all.toString();
    }

    static void dueSame(String what, String got, String want) {
        due(what + ": is " + got + ", was " + want, got.equals(want) ? 1 : 0, 1);
    }
}
