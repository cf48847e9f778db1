/** THE TEXT of an ISLE (promise 2): a test for each sentence that names a bound, on both sides of it. */
public final class TextEdgesTest {
    /** One STATEMENT of each letter, all of which can be on the isle of two(). */
    private static final String[] FORMS = {"t1234;", "s5;", "b67;", "f012;", "w01;", "l0103;", "d08;"};
    /** 16 by 60 and 39: the last DAY that there is. */
    private static final String TO_999 = "d60;d60;d60;d60;d60;d60;d60;d60;d60;d60;d60;d60;d60;d60;d60;d60;d39;";

    public static void main(String[] args) {
        oneStatementAtLeast();
        formsThatCome();
        somethingLacks();
        wrongBytes();
        bytesBelowZero();
        justAsManyDigits();
        fullRows();
        formAheadOfSense();
        placeOfTheLetter();
        kindOutOfRange();
        noRoom();
        storeOfNobody();
        warningsOutOfRange();
        warningsOfNobody();
        loansOutOfRange();
        loansOfNobody();
        loansOfTheGone();
        daysOutOfRange();
        dayAbove999();
        nothingComesWithAFault();
        oneBehindTheOther();
        rowStays();
        refusals();
        Check.end();
    }

    private static Scene two() {
        return Scene.isle("t0010;t0010;");
    }

    /** Tenant 0 is GONE, tenant 1 THERE with 50, as tenant 0 has. */
    private static Scene oneGone() {
        return Scene.isle("t0000;t7000;s0;d20;f050;f150;");
    }

    /** "STATEMENTS, each with ";" behind, one at least". */
    private static void oneStatementAtLeast() {
        Scene.fresh().faults("", -1000).faults(";", -1000);
        Scene.fresh().writes(0, "s4;").does("isle(0)", 1).asks("count(2)", 4);
    }

    private static void formsThatCome() {
        String all = "";
        for (int i = 0; i < FORMS.length; i++) {
            two().writes(0, FORMS[i]).does("isle(0)", 1);
            all += FORMS[i];
            two().writes(0, all).does("isle(0)", i + 1);
        }
    }

    /** "the place of the first byte with which no ISLE can go on (the end, if something lacks)". */
    private static void somethingLacks() {
        for (String form : FORMS) {
            for (int n = 0; n < form.length(); n++) {
                two().faults(form.substring(0, n), -1000 - n);
                if (n > 0) {
                    two().faults("s4;" + form.substring(0, n), -1003 - n);
                }
            }
        }
    }

    /** The bytes next to the digits, the letters and ";" in each place of each STATEMENT. */
    private static void wrongBytes() {
        for (String form : FORMS) {
            for (int i = 0; i < form.length(); i++) {
                String wrong = i == 0 ? "acegkmruvxTSBFWLD;0 " : i == form.length() - 1 ? ":<,0s " : "/:;a- ";
                for (int w = 0; w < wrong.length(); w++) {
                    String text = form.substring(0, i) + wrong.charAt(w) + form.substring(i + 1);
                    two().faults(text, -1000 - i);
                }
                two().faults("b40;" + form.substring(0, i) + "?" + form.substring(i + 1) + "?", -1004 - i);
            }
        }
        two().faults("t1234;?", -1006).faults("s5;;", -1003).faults("s5; s5;", -1003).faults("s5;\n", -1003);
    }

    /** A ROW of bytes has numbers below 0 too: they are no signs, whatever their lowest bits are. */
    private static void bytesBelowZero() {
        Scene.fresh().holdsRow(0, 0, 's' + 128, '5', ';').refused("isle(0)", -1000);
        Scene.fresh().holdsRow(0, 0, 's', '5' + 128, ';').refused("isle(0)", -1001);
        Scene.fresh().holdsRow(0, 0, 's', '5', ';' + 128).refused("isle(0)", -1002);
        Scene.fresh().holdsRow(0, 0, 's', '5', ';', -1).refused("isle(0)", -1003);
        Scene.fresh().holdsRow(0, 0, 's', '5', ';', 0).refused("isle(0)", -1003);
        Scene.fresh().holdsRow(0, 0, 's', '5', ';', -128).refused("isle(0)", -1003);
        Scene.fresh().holdsRow(0, 0, 's', '5', ';', 127).refused("isle(0)", -1003);
        // What is put in keeps its lowest bits: then it is a sign.
        Scene.fresh().holdsRow(0, 0, 's' + 256, '5' - 256, ';' + 65536).does("isle(0)", 1).asks("count(2)", 5);
    }

    /** "numbers in THE TEXT have just as many digits as told". */
    private static void justAsManyDigits() {
        for (String form : FORMS) {
            int end = form.length() - 1;
            two().faults(form.substring(0, end - 1) + ";", -1000 - (end - 1));
            two().faults(form.substring(0, end) + "0;", -1000 - end);
            two().faults(form.substring(0, 1) + "0" + form.substring(1), -1000 - end);
        }
    }

    /** A ROW has 100 elements at most: 100 signs come, and a FAULT may be at 99 or at the end, 100. */
    private static void fullRows() {
        StringBuilder seas = new StringBuilder();
        for (int i = 0; i < 20; i++) {
            seas.append("s4;");
        }
        String sixty = seas.toString();
        String full = sixty + "b11;b12;b13;b14;b15;b16;b17;b18;b19;b20;";
        Scene.fresh().writes(0, full).does("isle(0)", 30).asks("count(3)", 20);
        Scene.fresh().faults(full.substring(0, 99), -1099);
        Scene.fresh().faults(full.substring(0, 99) + ":", -1099);
        Scene.fresh().faults(full.substring(0, 98) + "0t", -1099);
        Scene.fresh().faults(sixty + "t0010;t0010;t0010;t0010;t0010;t0010;t001", -1100);
        Scene.fresh().faults(sixty + "b11;b12;b13;b14;b15;b16;b17;b18;b19;d61;", -2096);
        Scene.fresh().writes(0, sixty + "s4;s4;s4;s4;s4;s4;s4;s4;s4;s4;s4;s4;s5;").does("isle(0)", 33).asks("count(2)", 5);
    }

    /** "FAULT: kind 1 ...; else kind 2": the form is told first, wherever it is. */
    private static void formAheadOfSense() {
        two().faults("t9000;s", -1007).faults("t9000;", -2000);
        two().faults("d00;d61;s4", -1010).faults("d00;d61;s4;", -2000);
        two().faults("s4;x;t9000;", -1003);
        two().faults("t8", -1002).faults("w02", -1003).faults("d61", -1003).faults("l0000", -1005);
    }

    /** "the place of the letter of the first STATEMENT that is not as it must be". */
    private static void placeOfTheLetter() {
        two().faults("t0010;s1;b22;f012;w01;l0101;d01;d00;", -2032);
        two().faults("s1;d00;t9000;", -2003).faults("s1;s2;t9000;d00;", -2006);
        two().faults("s1;s1;s1;s1;s1;s1;s1;s1;s1;s1;s1;s1;s1;s1;s1;s1;s1;s1;s1;s1;s1;s1;s1;s1;s1;s1;s1;s1;s1;s1;w02;", -2090);
    }

    /** "t" KIND (0 .. 7), FIGURE, STORE. */
    private static void kindOutOfRange() {
        two().comesTrue("t0000;").asks("tenant(2, 0)", 0).asks("tenant(2, 1)", 0).asks("tenant(2, 2)", 0);
        two().comesTrue("t7999;").asks("tenant(2, 0)", 7).asks("tenant(2, 1)", 9).asks("tenant(2, 2)", 99);
        two().comesTrue("t3509;").asks("tenant(2, 0)", 3).asks("tenant(2, 1)", 5).asks("tenant(2, 2)", 9);
        two().faults("t8000;", -2000).faults("t9999;", -2000).faults("t7000;t8000;", -2006);
    }

    /** "no room": the seventh comes, the eighth does not. */
    private static void noRoom() {
        String five = "t0010;t0010;t0010;t0010;t0010;";
        two().comesTrue(five).asks("count(0)", 7).asks("count(4)", 127);
        two().faults(five + "t0010;", -2030);
        two().comesTrue(five).faults("s4;t7000;", -2003);
        Scene.fresh().faults("t0010;t0010;" + five + "t0010;t0010;", -2042);
    }

    /** "f" a TENANT, STORE: "no such TENANT"; he may be GONE. */
    private static void storeOfNobody() {
        Scene.fresh().faults("f010;", -2000);
        two().comesTrue("f000;f199;").asks("tenant(0, 2)", 0).asks("tenant(1, 2)", 99);
        two().faults("f210;", -2000).faults("f910;", -2000).faults("f110;f210;", -2005);
        Scene seven = two().comesTrue("t0010;t0010;t0010;t0010;t0010;");
        seven.comesTrue("f607;").asks("tenant(6, 2)", 7).asks("tenant(5, 2)", 10);
        seven.faults("f707;", -2000);
        oneGone().comesTrue("f099;").asks("tenant(0, 2)", 99).asks("tenant(0, 4)", 0);
    }

    /** "w" a TENANT, WARNINGS (0 or 1). */
    private static void warningsOutOfRange() {
        two().comesTrue("w01;").asks("tenant(0, 3)", 1).asks("tenant(1, 3)", 0).asks("tenant(0, 4)", 1);
        two().comesTrue("w11;w10;").asks("tenant(1, 3)", 0);
        two().faults("w02;", -2000).faults("w09;", -2000).faults("w01;w12;", -2004);
    }

    /** "w": "no such TENANT", "one GONE where he must be THERE". */
    private static void warningsOfNobody() {
        Scene.fresh().faults("w00;", -2000);
        two().comesTrue("w10;").asks("tenant(1, 3)", 0);
        two().faults("w20;", -2000).faults("w90;", -2000);
        oneGone().faults("w00;", -2000).faults("w01;", -2000);
        oneGone().comesTrue("w11;").asks("tenant(1, 3)", 1);
    }

    /** "the first has so many (1 .. 99), the second 99 at most with them". */
    private static void loansOutOfRange() {
        two().comesTrue("l0101;").asks("tenant(0, 2)", 9).asks("tenant(1, 2)", 11);
        two().comesTrue("l1010;").asks("tenant(0, 2)", 20).asks("tenant(1, 2)", 0);
        two().faults("l0100;", -2000).faults("l0111;", -2000).faults("l0199;", -2000);
        two().comesTrue("f099;f100;l0199;").asks("tenant(0, 2)", 0).asks("tenant(1, 2)", 99);
        two().comesTrue("f050;f150;").faults("l0150;", -2000).comesTrue("l0149;").asks("tenant(1, 2)", 99);
        two().comesTrue("f099;f199;").faults("l0101;", -2000);
        two().comesTrue("f000;").faults("l0100;", -2000).faults("l0101;", -2000);
    }

    /** "l": "no such TENANT, one twice". */
    private static void loansOfNobody() {
        Scene.fresh().faults("l0101;", -2000);
        two().faults("l0001;", -2000).faults("l1101;", -2000);
        two().faults("l0201;", -2000).faults("l2001;", -2000).faults("l9901;", -2000).faults("l0901;", -2000);
        Scene.isle("t0010;").faults("l0101;", -2000).faults("l1001;", -2000);
    }

    /** "one GONE where he must be THERE (of "w", "l")": either of the two. */
    private static void loansOfTheGone() {
        oneGone().faults("l0101;", -2000).faults("l1001;", -2000);
        oneGone().comesTrue("t0010;l1201;").asks("tenant(2, 2)", 11);
        // In one text: THERE ahead of the rent day, GONE behind it.
        Scene eve = Scene.isle("t0000;t7000;s0;d19;f007;f150;");
        eve.comesTrue("l0101;d01;").asks("count(4)", 2);
        eve.faults("d01;l0101;", -2004).faults("d01;w00;", -2004);
    }

    /** "d" DAYS (2 digits, 1 .. 60). */
    private static void daysOutOfRange() {
        two().comesTrue("d01;").asks("count(1)", 1);
        two().comesTrue("d60;").asks("count(1)", 60);
        two().faults("d00;", -2000).faults("d61;", -2000).faults("d99;", -2000);
        two().comesTrue("d60;d60;").asks("count(1)", 120);
    }

    /** "DAY above 999". */
    private static void dayAbove999() {
        Scene at939 = Scene.isle(TO_999.substring(0, 60) + "d39;");
        at939.asks("count(1)", 939);
        at939.comesTrue("d60;").asks("count(1)", 999);
        at939.comesTrue("d30;d30;").asks("count(1)", 999);
        at939.faults("d30;d31;", -2004).faults("d60;d01;", -2004).faults("d60;s4;d01;", -2007);
        Scene at940 = at939.comesTrue("d01;");
        at940.faults("d60;", -2000).comesTrue("d59;").asks("count(1)", 999);
        Scene at999 = Scene.isle(TO_999);
        at999.asks("count(1)", 999).faults("d01;", -2000).faults("d60;", -2000).comesTrue("s4;").asks("count(2)", 4);
    }

    /** "Without FAULT all of it comes, with one nothing." */
    private static void nothingComesWithAFault() {
        Scene some = Scene.isle("t0010;t3520;w11;d04;").with("image()", "days(1)");
        String all = "s9;b99;t7010;f050;w01;w10;l0105;d10;";
        some.comesTrue(all).asks("count(1)", 15).asks("count(2)", 9).asks("count(0)", 3);
        some.faults(all + "t8000;", -2036).faults(all + "d61;", -2036).faults(all + "?", -1036).faults(all + "s", -1037);
        some.faults("t8000;" + all, -2000).faults("?" + all, -1000);
    }

    /** "STATEMENTS are tried one behind the other, each on what those ahead of it made". */
    private static void oneBehindTheOther() {
        Scene.isle("t0010;f020;").asks("tenant(0, 2)", 20);
        Scene.fresh().faults("f020;t0010;", -2000);
        two().comesTrue("f099;f100;l0199;l1099;").asks("tenant(0, 2)", 99);
        two().faults("l0110;l0101;", -2006);
        two().comesTrue("s1;s2;s3;b01;b02;").asks("count(2)", 3).asks("count(3)", 2);
        // By sea 0 for ten days one has nothing to pay with, by sea 9 for the same ten days he has.
        Scene.isle("t0000;b99;s0;d10;").asks("tenant(0, 3)", 1);
        Scene.isle("t0000;b99;s9;d10;").asks("tenant(0, 3)", 0);
        Scene.isle("t0000;b99;s9;d10;s0;").asks("tenant(0, 3)", 0);
        // A loan of what was caught ahead of it.
        Scene.isle("t0000;t0000;s9;d01;l0108;").asks("tenant(1, 2)", 16);
        Scene.fresh().faults("t0000;t0000;s9;l0108;d01;", -2015);
    }

    /** "The ROW of a text ... stay there": it comes once more. */
    private static void rowStays() {
        Scene once = Scene.fresh().writes(2, "t0010;").does("isle(2)", 1);
        once.asks("element(2, 0)", 't').asks("element(2, 5)", ';').thrown("element(2, 6)", "IllegalStateException");
        once.does("isle(2)", 1).asks("count(0)", 2);
        Scene fault = Scene.fresh().writes(2, "t8010;").refused("isle(2)", -2000);
        fault.asks("element(2, 1)", '8').does("put(2, 1, 55)", 0).does("isle(2)", 1).asks("tenant(0, 0)", 7);
    }

    /** "-1, -11, -12 (no ROW of bytes)", and no FAULT told ahead of them. */
    private static void refusals() {
        Scene shelves = two().holdsOne(1, 0, 0).holdsRow(2, 1, 's', '4', ';').holdsRow(3, 2, 's', '4', ';')
            .holdsRow(4, 1).holdsRow(5, 2).writes(0, "s4;").writes(7, "s5;");
        shelves.refused("isle(-1)", -1).refused("isle(8)", -1);
        shelves.refused("isle(" + Integer.MIN_VALUE + ")", -1).refused("isle(" + Integer.MAX_VALUE + ")", -1);
        shelves.refused("isle(6)", -11).refused("isle(1)", -12).refused("isle(2)", -12).refused("isle(3)", -12);
        shelves.refused("isle(4)", -12).refused("isle(5)", -12);
        shelves.does("isle(0)", 1).asks("count(2)", 4);
        shelves.does("isle(7)", 1).asks("count(2)", 5);
        shelves.holdsNothing(7).refused("isle(7)", -11);
        shelves.with("row(7, 0, 0)").refused("isle(7)", -1000);
        shelves.with("row(7, 0, 100)").refused("isle(7)", -1000);
    }
}
