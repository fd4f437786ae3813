/** Promise 10: what he holds by the RULE IN FORCE: its words, sums, tests and clauses. */
final class BoundsOfRules {
    private static final String ONE = "court 1 99;thing 1";
    private static final String THREE = "court 3 10;thing 4;thing 9;thing 9;holds 1 2;person 3 4;person 12 0";

    private BoundsOfRules() {
    }

    private static void due(String call, long got, long want) {
        Checks.due(call, got, want);
    }

    private static void says(String words) {
        BoundsTest.says(words);
    }

    /** What is held in the n-th hour, and in the same one by a real run of hours. */
    private static void held(String court, String rule, int n, int wanted) {
        SpoonCourt x = Checks.at(court, rule);
        due("'" + rule + "' ahead " + n, x.ahead(0, n, 0), wanted);
        Checks.hours(x, n + 1);
        due("'" + rule + "' in hour " + n, x.count(7), wanted);
    }

    private static void isSo(String test) {
        held(ONE, "hold 1 if " + test, 0, 0);
        held(ONE, "hold 0 if " + test + ";hold 1", 0, -1);
    }

    private static void isNotSo(String test) {
        held(ONE, "hold 1 if " + test, 0, -1);
        held(ONE, "hold 0 if " + test + ";hold 1", 0, 0);
    }

    static void promise10GreatestIfAbove0() {
        says("is greatest, if it is above 0, of several the least (nothing, if none is)");
        held("court 1 9;thing 1;thing 3;thing 2", "hold rank", 0, 1);
        held("court 1 9;thing 1;thing 3;thing 2", "hold rank-2", 0, 1);
        held("court 1 9;thing 1;thing 3;thing 2", "hold rank-3", 0, -1);
        held("court 1 9;thing 1;thing 3;thing 2", "hold rank-4", 0, -1);
        held("court 1 9;thing 0", "hold rank", 0, -1);
        held("court 1 9", "hold 1", 0, -1);
    }

    static void promise10OfSeveralTheLeast() {
        says("of several the least (nothing, if none is)");
        held("court 1 9;thing 1;thing 3;thing 3;thing 3", "hold rank", 0, 1);
        held("court 1 9" + ";thing 3".repeat(6), "hold 1", 0, 0);
        held("court 1 9" + ";thing 3".repeat(6), "hold thing", 0, 5);
        held("court 1 9" + ";thing 3".repeat(6), "hold 6-thing", 0, 0);
    }

    static void promise10FirstClause() {
        says("the SUM of its first CLAUSE without a TEST, or whose TEST holds (0 without)");
        String two = "court 1 99;thing 5;thing 3";
        held(two, "hold 9 if rank=3;hold 8;hold 99", 0, 1);
        held(two, "hold 7 if rank=3;hold 8;hold 99 if rank=3", 0, 0);
        held(two, "hold 9 if rank=4", 0, -1);
        held(two, "hold 0 if rank=5;hold 1", 0, 1);
        held(two, "hold 0;hold 1", 0, -1);
        held(two, "hold 1 if rank=4;hold 0-1 if rank=5;hold 2 if rank=3;hold 9", 0, 1);
    }

    static void promise10RuleAheadOfWhatIsTold() {
        says("without a tray by the RULE IN FORCE the THING");
        held("court 1 9;thing 1;thing 1;holds 0 0", "hold thing", 0, 1);
        held("court 1 9;thing 1;thing 1;holds 0 0", "hold 0", 0, -1);
        held("court 1 9;thing 1;thing 1;holds 0 0", "hold usual", 5, 0);
    }

    static void promise10WordThing() {
        says("WORDS (small letters, as far as these go on) of a THING: thing, rank, clock");
        held(THREE, "hold thing", 0, 2);
        held(THREE, "hold 1 if thing=0", 0, 0);
        held(THREE, "hold 1 if thing=3", 0, -1);
        held(THREE, "hold rank", 0, 1);
        held(THREE, "hold 1 if rank=4", 0, 0);
    }

    static void promise10WordClockGoesRound() {
        says("clock (the hour of this day: HOUR by DAY, the rest)");
        held(THREE, "hold 1 if clock=0", 0, 0);
        held(THREE, "hold 1 if clock=2", 2, 0);
        held(THREE, "hold 1 if clock=3", 3, -1);
        held(THREE, "hold 1 if clock=0", 3, 0);
        held(THREE, "hold 1 if clock=1", 100, 0);
        held("court 1 9;thing 1", "hold 1 if clock=0", 77, 0);
        held("court 12 9;thing 1", "hold 1 if clock=11", 23, 0);
        held("court 12 9;thing 1", "hold 1 if clock=0", 24, 0);
    }

    static void promise10WordUsual() {
        says("usual (1 if he has it in hand at this one as told, else 0)");
        held(THREE, "hold 1 if usual=1", 1, 2);
        held(THREE, "hold 1 if usual=1", 0, -1);
        held(THREE, "hold 1 if usual=1", 4, 2);
        held(THREE, "hold 1 if usual=0", 1, 0);
        held(THREE, "hold usual", 1, 2);
    }

    static void promise10WordLast() {
        says("last (1 if he held it in the HOUR ahead, else 0)");
        held(THREE, "hold 1 if last=1", 0, -1);
        held(THREE, "hold 1 if last=0", 0, 0);
        SpoonCourt x = Checks.at(THREE, "hold 1 if last=1");
        x.tray(2);
        x.hour();
        due("held from the tray", x.ahead(0, 0, 0), 2);
        x.gloves(1);
        due("not behind gloves", x.ahead(0, 1, 0), -1);
        SpoonCourt y = Checks.at(THREE, "hold 1 if last=0");
        y.tray(0);
        y.hour();
        due("the first that was not held", y.ahead(0, 0, 0), 1);
        held(THREE, "hold 2-last", 1, 1);
        held(THREE, "hold 2-last", 2, 0);
    }

    static void promise10WordTimes() {
        says("times (in how many HOURS he held it so far)");
        held(THREE, "hold 1 if times=0", 0, 0);
        held(THREE, "hold 1 if times=0", 2, 2);
        held(THREE, "hold 1 if times=0", 3, -1);
        SpoonCourt x = Checks.at(THREE, "hold 1 if times=2");
        x.tray(1);
        x.hour();
        x.tray(1);
        x.hour();
        due("from the tray too", x.ahead(0, 0, 0), 1);
        x.undo();
        due("undone", x.ahead(0, 1, 0), 1);
        x.tray(-1);
        due("one less", x.ahead(0, 0, 0), -1);
    }

    static void promise10WordTitles() {
        says("titles (how many PEOPLE have one by it)");
        SpoonCourt x = Checks.at("court 1 1;thing 1;thing 1" + ";person 0 0".repeat(6), "hold 1 if titles=6");
        for (int p = 0; p < 6; p++) {
            x.deed(p, 1);
        }
        due("nobody", x.ahead(0, 0, 0), -1);
        x.tray(1);
        x.hour();
        due("all six", x.ahead(0, 0, 0), 1);
        x.strip(3, 1);
        due("five", x.ahead(0, 0, 0), -1);
    }

    static void promise10WordDueAsTheHourBegins() {
        says("due (how many have OWED or more THANKS as this HOUR begins)");
        held("court 1 9;thing 1;person 9 0;person 10 0;person 8 9", "hold 1 if due=2", 0, 0);
        held("court 1 9;thing 1;person 8 1", "hold 1 if due=0", 0, 0);
        held("court 1 9;thing 1;person 8 1", "hold 1 if due=1", 0, -1);
        held("court 1 9;thing 1;person 9 0", "hold 1 if due=1", 1, -1);
        held("court 1 9;thing 1", "hold 1 if due=0", 0, 0);
        held("court 1 1;thing 1" + ";person 9 9".repeat(6), "hold 1 if due=6", 0, 0);
    }

    static void promise10WordKnights() {
        says("knights (who have any TITLE)");
        held("court 1 1;thing 1;thing 1;person 0 1;person 1 0;person 0 0", "hold 1 if knights=0;hold thing*2", 1, 1);
        held("court 1 1;thing 1;thing 1;person 0 1;person 1 0;person 0 0", "hold 1 if knights=2", 1, -1);
        SpoonCourt x = Checks.at("court 1 1;thing 1;thing 1" + ";person 9 9".repeat(6), "hold 1 if knights=6");
        x.hour();
        due("by a hand none is", x.ahead(0, 0, 0), -1);
        x.tray(1);
        x.hour();
        due("all six", x.ahead(0, 0, 0), 0);
        x.tray(0);
        x.hour();
        due("two titles are one knight", x.ahead(0, 0, 0), 0);
    }

    static void promise10WordMost() {
        says("most (the most THANKS anybody has; 0), people, hour.");
        held(THREE, "hold 1 if most=12", 0, 0);
        held(THREE, "hold 1 if most=7", 1, 0);
        held("court 1 9;thing 1", "hold 1 if most=0", 0, 0);
        SpoonCourt x = Checks.at("court 1 99;thing 1;person 0 0;person 99 0", "hold 1 if most=999");
        for (int i = 0; i < 10; i++) {
            x.deed(1, 99);
        }
        due("999", x.ahead(0, 0, 0), 0);
    }

    static void promise10WordPeopleAndHour() {
        says("most (the most THANKS anybody has; 0), people, hour.");
        held(THREE, "hold 1 if people=2", 0, 0);
        held("court 1 9;thing 1", "hold 1 if people=0", 0, 0);
        held("court 1 9;thing 1" + ";person 0 0".repeat(6), "hold 1 if people=6", 0, 0);
        held(THREE, "hold 1 if hour=0", 0, 0);
        held(THREE, "hold 1 if hour=100", 100, 0);
        held(THREE, "hold 1 if hour=99", 100, -1);
    }

    static void promise10By0() {
        says("/ is towards 0, % its rest, both 0 by 0; all goes round in 64 bits.");
        isSo("5/0=0");
        isSo("5%0=0");
        isSo("0/0=0");
        isSo("0%0=0");
        isSo("1+7/thing=1");
        isSo("1+7%thing=1");
        isSo("7/0+7%0+3=3");
    }

    static void promise10Towards0() {
        says("/ is towards 0, % its rest");
        isSo("7/2=3");
        isSo("7%2=1");
        isSo("1/2=0");
        isSo("99999/99999=1");
        // 32768 * 32768 * 32768 * 32768 * 8 is the least number of 64 bits
        isSo("32768*32768*32768*32768*8<0");
        isSo("32768*32768*32768*32768*8/10000/10000/10000/10000=0-922");
        isSo("32768*32768*32768*32768*8%1000=0-808");
        isSo("32768*32768*32768*32768*8/1<0");
        isSo("32768*32768*32768*32768*8%1=0");
    }

    static void promise10GoesRoundIn64Bits() {
        says("all goes round in 64 bits");
        isSo("32768*32768*32768*32768*8-1>0");
        isSo("32768*32768*32768*32768*16=0");
        isSo("0-32768*32768*32768*32768*8<0");
        isSo("32768*32768*32768*32768*8+32768*32768*32768*32768*8=0");
        isSo("65536*65536>4294");
        isNotSo("65536*65536=0");
        held(ONE, "hold 32768*32768*32768*32768*8", 0, -1);
        held(ONE, "hold 32768*32768*32768*32768*8-1", 0, 0);
        held("court 1 99;thing 0;thing 1", "hold rank*65536*65536+1", 0, 1);
    }

    static void promise10SumsFromTheLeft() {
        says("SUM: TERM { (+ or -) TERM }. TERM: VALUE { (* or / or %) VALUE }.");
        isSo("10-3-2=5");
        isSo("10-3+2=9");
        isSo("100/10/5=2");
        isSo("100/10*5=50");
        isSo("100%30*2=20");
        isSo("7*5%4=3");
        isSo("2+3*4=14");
        isSo("2*3+4=10");
        isSo("2+3*4-10/4%2=14");
        isSo("20-2*3-4*2=6");
        isSo("1-2<0");
    }

    static void promise10Signs() {
        says("SUM SIGN SUM, SIGN one of < <= = >= >.");
        String[] signs = {"<", "<=", "=", ">=", ">"};
        boolean[][] wanted = {{true, false, false}, {true, true, false}, {false, true, false},
            {false, true, true}, {false, false, true}};
        for (int s = 0; s < signs.length; s++) {
            for (int left = 1; left <= 3; left++) {
                String fact = left + signs[s] + "2";
                if (wanted[s][left - 1]) {
                    isSo(fact);
                    isNotSo("not " + fact);
                    isSo("1=1 and " + fact);
                    isSo("not not " + fact);
                } else {
                    isNotSo(fact);
                    isSo("not " + fact);
                    isSo("1=1 or " + fact);
                    isNotSo("1=2 or " + fact);
                }
            }
        }
    }

    static void promise10AndOr() {
        says("TEST: PART { or PART }. PART: FACT { and FACT }.");
        for (int bits = 0; bits < 16; bits++) {
            boolean a = (bits & 1) != 0;
            boolean b = (bits & 2) != 0;
            boolean c = (bits & 4) != 0;
            boolean d = (bits & 8) != 0;
            String f = "1=" + (a ? 1 : 2);
            String g = "1=" + (b ? 1 : 2);
            String h = "1=" + (c ? 1 : 2);
            String i = "1=" + (d ? 1 : 2);
            check(f + " or " + g + " or " + h + " or " + i, a | b | c | d);
            check(f + " and " + g + " and " + h + " and " + i, a & b & c & d);
            check(f + " or " + g + " and " + h + " or " + i, a | b & c | d);
            check(f + " and " + g + " or " + h + " and " + i, a & b | c & d);
            check(f + " and [" + g + " or " + h + "] and " + i, a & (b | c) & d);
            check("not " + f + " and not " + g + " or not [" + h + " or " + i + "]", !a & !b | !(c | d));
            check("not [" + f + " and " + g + "] and not not [" + h + " or not " + i + "]",
                    !(a & b) & (c | !d));
        }
    }

    private static void check(String test, boolean wanted) {
        if (wanted) {
            isSo(test);
        } else {
            isNotSo(test);
        }
    }

    static void promise10TenDeepIsWorkedOut() {
        says("[ and not lie within one another 10 deep at most");
        isSo("[".repeat(10) + "1=1" + "]".repeat(10));
        isNotSo("[".repeat(10) + "1=2" + "]".repeat(10));
        isSo("not ".repeat(10) + "1=1");
        isNotSo("not ".repeat(9) + "1=1");
        // at each depth something waits for what is in the brackets
        isSo(waiting("[1=1]"));
        isNotSo(waiting("[1=2]"));
    }

    private static String waiting(String inmost) {
        String nested = inmost;
        for (int i = 0; i < 9; i++) {
            nested = "1=2 or 1=1 and [" + nested + "]";
        }
        return nested;
    }

    static void promise10RuleOfOneHourAfterTheOther() {
        says("(1) What he holds: nothing, if he has gloves on; else what lies on the tray");
        SpoonCourt x = Checks.at("court 1 99;thing 1;thing 1", "hold 1 if thing=0");
        Checks.rule(x, "hold 1 if thing=1");
        int[] rules = {0, 1, -1, 1, 0};
        int[] wanted = {0, 1, -1, 1, 0};
        for (int i = 0; i < rules.length; i++) {
            x.force(rules[i]);
            x.hour();
            due("by rule " + rules[i], x.count(7), wanted[i]);
        }
    }
}
