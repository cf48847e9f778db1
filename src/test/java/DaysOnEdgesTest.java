/** Promises 9 to 13, "In mind, n DAYS on": a test for each sentence that names a bound, on both sides of it. */
public final class DaysOnEdgesTest {
    private static final String TO_999 = "d60;d60;d60;d60;d60;d60;d60;d60;d60;d60;d60;d60;d60;d60;d60;d60;d39;";

    public static void main(String[] args) {
        daysOnOfOne();
        daysOnOfAll();
        dayMayPass999();
        whatOutOfRange();
        goesBehind0To60();
        goesOfNobody();
        firstOfThoseThere();
        firstOfSeveralTheLeast();
        emptyBehind0To60();
        rentOnTheNextRentDay();
        warnedByOneFish();
        nobodyIsThere();
        Check.end();
    }

    /** By sea 0: 20 fish, 10 of them eaten and 8 paid on day 10, warned on day 20, gone on day 30. */
    private static Scene one() {
        return Scene.isle("t0020;s0;");
    }

    /** "In mind, n DAYS on (0 .. 60) ...: STORE; ... WARNINGS of one." */
    private static void daysOnOfOne() {
        one().asks("tenantThen(0, 0, 0)", 20).asks("tenantThen(0, 0, 1)", 0);
        one().asks("tenantThen(0, 9, 0)", 11).asks("tenantThen(0, 10, 0)", 2);
        one().asks("tenantThen(0, 19, 1)", 0).asks("tenantThen(0, 20, 1)", 1);
        one().asks("tenantThen(0, 29, 1)", 1).asks("tenantThen(0, 30, 1)", 2).asks("tenantThen(0, 60, 1)", 2);
        one().refused("tenantThen(0, -1, 0)", -1).refused("tenantThen(0, 61, 0)", -1);
        one().refused("tenantThen(0, -1, 1)", -1).refused("tenantThen(0, 61, 1)", -1);
        one().refused("tenantThen(-1, 0, 0)", -1).refused("tenantThen(1, 0, 0)", -1);
        Scene child = Scene.isle("t7042;");
        child.asks("tenantThen(0, 60, 0)", 42);
        Scene many = Scene.isle("t7001;t7002;t7003;t7004;t7005;t7006;t7007;");
        many.asks("tenantThen(6, 60, 0)", 7).refused("tenantThen(7, 60, 0)", -1);
    }

    /** "who is THERE (bits); BIRDS". */
    private static void daysOnOfAll() {
        one().asks("then(0, 0)", 1).asks("then(29, 0)", 1).asks("then(30, 0)", 0).asks("then(60, 0)", 0);
        one().asks("then(0, 1)", 40).asks("then(9, 1)", 40).asks("then(10, 1)", 37).asks("then(60, 1)", 22);
        one().refused("then(-1, 0)", -1).refused("then(61, 0)", -1).refused("then(-1, 1)", -1).refused("then(61, 1)", -1);
        Scene many = Scene.isle("t7000;t0000;t7000;t7000;t0000;t7000;t7000;s0;");
        many.asks("then(19, 0)", 127).asks("then(20, 0)", 109);
        Scene.isle("s9;b90;").asks("then(10, 1)", 96).asks("then(20, 1)", 99).asks("then(60, 1)", 99);
        Scene.isle("s0;b05;").asks("then(10, 1)", 2).asks("then(20, 1)", 0).asks("then(60, 1)", 0);
    }

    /** "(DAY may pass 999 there)": all that is asked of days to come is answered on day 999. */
    private static void dayMayPass999() {
        Scene last = Scene.isle(TO_999).comesTrue("t0009;t7000;t0000;s0;b40;");
        last.asks("count(1)", 999).refused("days(1)", -3);
        last.asks("tenantThen(0, 1, 0)", 0).asks("tenantThen(2, 1, 1)", 1).asks("tenantThen(2, 60, 1)", 2);
        last.asks("then(1, 1)", 37).asks("then(60, 1)", 22).asks("then(10, 0)", 7).asks("then(11, 0)", 3);
        last.asks("goes(2)", 11).asks("goes(0)", 21).asks("goes(1)", -4).asks("goes(-1)", 2).asks("empty()", -4);
        last.asks("rent(0)", 40).asks("rent(1)", 4).asks("richest(1)", 1);
        last.asks("bestSea(60, 1)", 3).asks("leastStore(2)", 9).asks("lend(0, 2)", 9).asks("leastBirds()", -4);
        last.asks("send(60, 0)", -4).asks("send(60, 1)", -4).asks("two(0, 1, 60)", 11);
        last.asks("storms(0, 7, 2, 0, 0)", 1).asks("years(1, 0, 0)", 2);
        // A baker would have 1 on day 1000, a nurse 2.
        last.holdsRow(0, 0, 0, 0, 0).asks("whatIs(0, 1, 0)", 255 - 4 - 16);
        last.holdsRow(0, 0, 9, 0).asks("whichSea(0)", 1);
        last.holdsRow(0, 0, 3, 3, 3, 3, 3, 3, 3, 3, 3, 3, 3, 2, 2).asks("judge(0)", -4);
    }

    /** What 0 and 1 are all that can be asked. */
    private static void whatOutOfRange() {
        one().refused("tenantThen(0, 0, -1)", -1).refused("tenantThen(0, 0, 2)", -1);
        one().refused("then(0, -1)", -1).refused("then(0, 2)", -1);
        one().refused("rent(-1)", -1).refused("rent(2)", -1);
    }

    /** "GOES: behind how many DAYS (0 .. 60) one is GONE first; -4". */
    private static void goesBehind0To60() {
        // 85 fish on day 9: 76 behind the rent of day 10, paid four times more; warned on days 60 and 70.
        Scene day9 = Scene.isle("s0;d09;t0085;");
        day9.asks("goes(0)", -4).asks("then(60, 0)", 1);
        Scene day10 = day9.with("days(1)");
        day10.asks("goes(0)", 60).asks("then(59, 0)", 1).asks("then(60, 0)", 0);
        day10.with("days(1)").asks("goes(0)", 59);
        Scene day69 = day10.with("days(59)");
        day69.asks("goes(0)", 1).asks("count(4)", 1);
        Scene day70 = day69.with("days(1)");
        day70.asks("goes(0)", 0).with("days(5)").asks("goes(0)", 0);
        one().asks("goes(0)", 30);
        Scene.isle("t7000;").asks("goes(0)", -4);
    }

    /** "-1 (t below -1, too)". */
    private static void goesOfNobody() {
        one().refused("goes(1)", -1).refused("goes(-2)", -1).refused("goes(7)", -1);
        one().refused("goes(" + Integer.MIN_VALUE + ")", -1).refused("goes(" + Integer.MAX_VALUE + ")", -1);
        Scene.fresh().refused("goes(0)", -1).asks("goes(-1)", -4);
        Scene.isle("t7000;t7000;t7000;t7000;t7000;t7000;t0000;s0;").asks("goes(6)", 20).refused("goes(7)", -1);
    }

    /** "FIRST: who of those THERE ...; -4", within the same DAYS. */
    private static void firstOfThoseThere() {
        Scene day9 = Scene.isle("s0;d09;t7000;t0085;");
        day9.asks("goes(-1)", -4);
        Scene day10 = day9.with("days(1)");
        day10.asks("goes(-1)", 1);
        Scene day70 = day10.with("days(60)");
        day70.asks("count(4)", 1).asks("goes(-1)", -4).asks("goes(1)", 0);
        // One GONE already is none of those.
        Scene.isle("t0000;t0025;s0;d20;").asks("count(4)", 2).asks("goes(-1)", 1).asks("goes(1)", 10);
    }

    /** "of several the least": of those who go on one day; one who goes ahead of them is first. */
    private static void firstOfSeveralTheLeast() {
        Scene.isle("t7000;t0000;t0000;s0;").asks("goes(-1)", 1);
        Scene.isle("t0020;t7000;t0000;t0020;s0;").asks("goes(-1)", 2);
        Scene.isle("t0000;t0000;t0000;t0000;t0000;t0000;t0000;s0;").asks("goes(-1)", 0);
        Scene.isle("t7000;t7000;t7000;t7000;t7000;t7000;t0000;s0;").asks("goes(-1)", 6);
    }

    /** "EMPTY: behind how many DAYS (0 .. 60) nobody is THERE first; -4." */
    private static void emptyBehind0To60() {
        Scene day9 = Scene.isle("s0;d09;t0000;t0085;t0010;");
        day9.asks("empty()", -4);
        Scene day10 = day9.with("days(1)");
        day10.asks("empty()", 60).asks("goes(-1)", 0);
        day10.with("days(59)").asks("empty()", 1);
        day10.with("days(60)").asks("empty()", 0).asks("count(4)", 0);
        day10.comesTrue("t7000;").asks("empty()", -4);
        Scene.fresh().asks("empty()", 0);
    }

    /** "RENT: on the next RENT DAY": from a RENT DAY on it is the one behind it. */
    private static void rentOnTheNextRentDay() {
        // 18 fish by sea 0 are paid on day 10; the 0 that are left then are too few on day 20.
        Scene day0 = Scene.isle("t0018;s0;");
        day0.asks("rent(1)", 0).asks("rent(0)", 40);
        day0.with("days(9)").asks("rent(1)", 0).asks("rent(0)", 40);
        day0.with("days(10)").asks("rent(1)", 1).asks("rent(0)", 37).asks("tenant(0, 3)", 0);
        day0.with("days(19)").asks("rent(1)", 1).asks("rent(0)", 37);
        day0.with("days(20)").asks("rent(1)", 1).asks("rent(0)", 34).asks("tenant(0, 3)", 1);
        day0.with("days(30)").asks("rent(1)", 0).asks("tenant(0, 4)", 0);
    }

    private static void warnedByOneFish() {
        Scene.isle("t0017;t0018;t1020;t1021;s0;").asks("rent(1)", 0b0101);
        Scene eve = Scene.isle("t0050;t0050;s0;d09;");
        eve.with("set(1, 16)").asks("rent(1)", 0);
        eve.with("set(1, 15)").asks("rent(1)", 2);
        eve.with("set(1, 8)").asks("rent(1)", 2);
        eve.with("set(1, 7)").asks("rent(1)", 3);
        Scene seven = Scene.isle("t0000;t0000;t0000;t0000;t0000;t0000;t0000;s0;");
        seven.asks("rent(1)", 127);
    }

    private static void nobodyIsThere() {
        Scene.fresh().asks("rent(0)", 25).asks("rent(1)", 0).asks("then(60, 0)", 0).asks("then(60, 1)", 40);
        Scene.fresh().refused("tenantThen(0, 0, 0)", -1);
    }
}
