/** Promises 23 to 25 and 28 to 32, sentence by sentence: who has what, notes, and years drawn. */
final class BoundsOfHonours {
    private static final String COURT = "court 2 10;thing 5;thing 2;holds 0 0;holds 1 1;"
            + "person 8 1;person 4 3;person 0 0";

    private BoundsOfHonours() {
    }

    private static void due(String call, long got, long want) {
        Checks.due(call, got, want);
    }

    private static void says(String words) {
        BoundsTest.says(words);
    }

    /** A TITLE for somebody in a court where nobody serves. */
    private static void give(SpoonCourt x, int person, int thing) {
        x.deed(person, 99);
        x.tray(thing);
        x.hour();
    }

    private static SpoonCourt ranks(String things, int people) {
        return Checks.at("court 1 99" + things + ";person 0 0".repeat(people));
    }

    static void promise23MoreRank() {
        says("PLACE of a PERSON: how many PEOPLE have more RANK (all their TITLES together), or as much, "
                + "and less as a number.");
        SpoonCourt x = ranks(";thing 4;thing 5;thing 9", 6);
        for (int p = 0; p < 6; p++) {
            due("nobody has any: " + p, x.place(p), p);
        }
        give(x, 5, 0);
        due("the last is first", x.place(5), 0);
        due("the first is second", x.place(0), 1);
        due("the one ahead of the last is last", x.place(4), 5);
        give(x, 0, 1);
        due("more than the last", x.place(0), 0);
        due("the last is second", x.place(5), 1);
        due("behind both", x.place(1), 2);
    }

    static void promise23AsMuchAndLessAsANumber() {
        says("or as much, and less as a number");
        SpoonCourt x = ranks(";thing 4;thing 5;thing 9;thing 0", 4);
        give(x, 3, 0);
        give(x, 3, 1);
        give(x, 1, 2);
        due("as much: the less", x.place(1), 0);
        due("as much: the greater", x.place(3), 1);
        due("none: the less", x.place(0), 2);
        due("none: the greater", x.place(2), 3);
        give(x, 2, 3);
        due("a rank of 0 is none", x.place(2), 3);
    }

    static void promise23WithoutThatPerson() {
        says("PLACE; NONE without that PERSON.");
        SpoonCourt x = Checks.at(COURT);
        due("the last", x.place(2), 2);
        due("one beyond", x.place(3), -1);
        due("-1", x.place(-1), -1);
        due("6", x.place(6), -1);
        for (int k : Checks.OUTSIDE) {
            due("person " + k, x.place(k), -1);
        }
        due("without a court", new SpoonCourt().place(0), -1);
        due("without people", Checks.at("court 1 1").place(0), -1);
    }

    static void promise24TwoOneEach() {
        says("so that no two other ones have TITLES of two THINGS that quarrel, one each");
        SpoonCourt x = ranks(";thing 1;thing 1;thing 1;quarrel 0 2", 6);
        due("nobody has any", x.stripped(0), 0);
        due("nobody: the set", x.stripped(1), 0);
        give(x, 5, 0);
        give(x, 4, 1);
        due("no quarrel", x.stripped(0), 0);
        give(x, 3, 2);
        due("one of two", x.stripped(0), 1);
        due("the least", x.stripped(1), 8);
        give(x, 2, 2);
        due("the one against two", x.stripped(1), 32);
        give(x, 1, 0);
        due("two against two", x.stripped(0), 2);
        due("the least set", x.stripped(1), 4 + 8);
    }

    static void promise24OneOfThemBoth() {
        says("nor one of them both: how many; of several sets the least as bits");
        SpoonCourt x = ranks(";thing 1;thing 1;thing 1;thing 1;thing 1;thing 1;quarrel 5 4;quarrel 0 1", 6);
        give(x, 2, 4);
        give(x, 2, 5);
        due("one with both", x.stripped(1), 4);
        due("how many", x.stripped(0), 1);
        for (int p = 0; p < 6; p++) {
            give(x, p, 0);
            give(x, p, 1);
        }
        due("all", x.stripped(0), 6);
        due("all: the set", x.stripped(1), 63);
        x.strip(4, 0);
        due("all but one", x.stripped(1), 63 - 16);
    }

    static void promise24NoneForOthers() {
        says("STRIPPED what 0: how many, 1: the set. NONE for others, or without a COURT.");
        SpoonCourt x = Checks.at(COURT);
        due("what 2", x.stripped(2), -1);
        due("what -1", x.stripped(-1), -1);
        for (int k : Checks.OUTSIDE) {
            due("what " + k, x.stripped(k), -1);
        }
        due("without a court", new SpoonCourt().stripped(0), -1);
        due("without a court, the set", new SpoonCourt().stripped(1), -1);
        due("without people", Checks.at("court 1 1;thing 1;thing 1;quarrel 0 1").stripped(1), 0);
    }

    static void promise25Much0To9999() {
        says("GOLD (0 to 9999) among PEOPLE by RANK: each the part downwards");
        SpoonCourt x = ranks(";thing 20", 2);
        give(x, 1, 0);
        due("0", x.gold(0, 1), 0);
        due("1", x.gold(1, 1), 1);
        due("9999", x.gold(9999, 1), 9999);
        due("of who has none", x.gold(9999, 0), 0);
        due("-1", x.gold(-1, 1), -1);
        due("-1 of who has none", x.gold(-1, 0), -1);
        due("-20", x.gold(-20, 1), -1);
        due("10000", x.gold(10000, 1), -1);
        for (int k : Checks.OUTSIDE) {
            due("much " + k, x.gold(k, 1), -1);
        }
    }

    static void promise25WhatIsLeft() {
        says("what is left, one each, to those whose part lost most by that, of several the least first");
        SpoonCourt x = ranks(";thing 5;thing 3;thing 0", 5);
        give(x, 1, 0);
        give(x, 2, 1);
        give(x, 3, 1);
        give(x, 4, 2);
        // of 11: 5, 3, 3; what is lost stands in elevenths
        int[][] rows = {
            {1, 0, 1, 0, 0, 0},  // 5 3 3 lost: the first
            {2, 0, 1, 1, 0, 0},  // 10 6 6: the first, then the less of two
            {3, 0, 1, 1, 1, 0},  // 1 and 4 lost, 9 9: both others
            {4, 0, 2, 1, 1, 0},  // 1 and 9; 1 and 1: the first
            {5, 0, 2, 2, 1, 0},  // 2 and 3; 1 and 4 twice: the less
            {10, 0, 4, 3, 3, 0}, // 4 and 6; 2 and 8 twice: both
            {11, 0, 5, 3, 3, 0}, // nothing is lost
        };
        for (int[] row : rows) {
            for (int p = 0; p < 5; p++) {
                due("gold " + row[0] + " of " + p, x.gold(row[0], p), row[p + 1]);
            }
        }
    }

    static void promise25AllIsGivenOut() {
        says("what is left, one each, to those whose part lost most by that");
        SpoonCourt x = ranks(";thing 19;thing 7;thing 3;thing 1;thing 13;thing 11", 6);
        for (int p = 0; p < 6; p++) {
            give(x, p, p);
        }
        for (int much : new int[] {1, 2, 5, 53, 54, 55, 107, 1000, 9998, 9999}) {
            int sum = 0;
            for (int p = 0; p < 6; p++) {
                sum += x.gold(much, p);
            }
            due("all together of " + much, sum, much);
        }
    }

    static void promise25AllRankIs1() {
        says("(nothing, if all RANK is 0)");
        SpoonCourt x = ranks(";thing 1", 2);
        give(x, 1, 0);
        due("all of it", x.gold(9999, 1), 9999);
        due("of the other", x.gold(9999, 0), 0);
    }

    static void promise25AllRankIs0() {
        says("(nothing, if all RANK is 0)");
        SpoonCourt x = ranks(";thing 0", 2);
        due("nobody has any", x.gold(9999, 0), 0);
        give(x, 0, 0);
        due("of a rank of 0", x.gold(9999, 0), 0);
        due("of the other", x.gold(1, 1), 0);
    }

    static void promise25WithoutThese() {
        says("GOLD; NONE without these.");
        SpoonCourt x = Checks.at(COURT);
        due("the last", x.gold(5, 2), 0);
        due("one beyond", x.gold(5, 3), -1);
        due("-1", x.gold(5, -1), -1);
        for (int k : Checks.OUTSIDE) {
            due("person " + k, x.gold(5, k), -1);
        }
        due("without a court", new SpoonCourt().gold(0, 0), -1);
    }

    static void promise28TenNotes() {
        says("NOTES 0 to 9, told: in the n-th HOUR of all (0 to 60) he held a THING, or nothing (NONE).");
        SpoonCourt x = Checks.at(COURT);
        for (int i = 1; i <= 10; i++) {
            due("note " + i, x.note(0, 0), i);
        }
        String before = Checks.state(x);
        due("if there are 10", x.note(1, 1), -2);
        Checks.dueText("nothing happened", Checks.state(x), before);
        due("so they are", x.ruled(0), 1);
    }

    static void promise28TheTenthIsKept() {
        says("RULED: which of the RULES, and of none, so that from the begin on, all as the text told it, "
                + "all NOTES are so");
        SpoonCourt x = Checks.at(COURT);
        for (int i = 0; i < 9; i++) {
            x.note(i, i % 2);
        }
        due("nine are so", x.ruled(0), 1);
        x.note(9, 0);
        due("the tenth is not", x.ruled(0), 0);
    }

    static void promise28Hours0To60() {
        says("in the n-th HOUR of all (0 to 60) he held a THING, or nothing (NONE)");
        SpoonCourt x = Checks.at(COURT);
        due("0", x.note(0, 0), 1);
        due("60", x.note(60, 0), 2);
        due("both are so", x.ruled(0), 1);
        String before = Checks.state(x);
        due("61", x.note(61, 0), -2);
        due("-2", x.note(-2, 0), -2);
        for (int k : Checks.OUTSIDE) {
            due("n " + k, x.note(k, 0), -2);
        }
        Checks.dueText("nothing happened", Checks.state(x), before);
        due("60 is looked at", x.note(60, 1), 3);
        due("it is not so", x.ruled(0), 0);
    }

    static void promise28NoneThen() {
        says("A NOTE (n NONE: there are none then, 0): how many");
        SpoonCourt x = Checks.at(COURT);
        due("of none", x.note(-1, 0), 0);
        for (int i = 0; i < 10; i++) {
            x.note(3, 0);
        }
        due("of ten", x.note(-1, 0), 0);
        due("there are none", x.count(11), 0);
        due("nothing is noted", x.ruled(0), 1);
        due("from the first again", x.note(3, 1), 1);
        due("without a court", new SpoonCourt().note(-1, 0), 0);
        due("no act", x.count(12), 0);
    }

    static void promise28WithoutThese() {
        says("-2, and nothing happens, without these (thing NONE: nothing), or a COURT, or if there are 10.");
        SpoonCourt x = Checks.at(COURT);
        due("the last thing", x.note(1, 1), 1);
        due("nothing", x.note(1, -1), 2);
        due("one beyond", x.note(1, 2), -2);
        due("-2", x.note(1, -2), -2);
        for (int k : Checks.OUTSIDE) {
            due("thing " + k, x.note(1, k), -2);
        }
        due("notes", x.count(11), 2);
        due("without a court", new SpoonCourt().note(0, 0), -2);
        due("nothing without a court", new SpoonCourt().note(0, -1), -2);
        due("nothing of no things", Checks.at("court 1 1").note(0, -1), 1);
    }

    static void promise29AllAsTheTextToldIt() {
        says("so that from the begin on, all as the text told it, all NOTES are so");
        SpoonCourt x = Checks.at("court 1 60;thing 1;thing 1;thing 1;person 50 0",
                "hold 1 if most=50 and thing=0;hold 1 if most=60 and thing=1");
        x.deed(0, 10);
        x.tray(2);
        x.hour();
        x.gloves(5);
        x.hour();
        x.note(0, 0);
        x.note(60, 0);
        due("by the rule, from the thanks that were told", x.ruled(1), 0);
        due("by that alone", x.ruled(0), 1);
        x.note(-1, 0);
        x.note(0, -1);
        due("nothing by none", x.ruled(1), -1);
        x.image(0);
        Checks.court(x, "court 1 60");
        x.back(0);
        x.note(-1, 0);
        x.note(0, 0);
        due("behind an image too", x.ruled(1), 0);
    }

    static void promise29NoneAheadOf0() {
        says("how many; the first (none ahead of 0, told as NONE)");
        SpoonCourt x = Checks.at("court 1 9;thing 1;thing 1;holds 0 0");
        due("none alone", x.ruled(0), 1);
        due("none", x.ruled(1), -1);
        for (int r = 0; r < 6; r++) {
            Checks.rule(x, r < 3 ? "hold 1" : "hold thing");
        }
        due("none and six", x.ruled(0), 7);
        due("none is first", x.ruled(1), -1);
        x.note(0, 0);
        due("none and three", x.ruled(0), 4);
        due("none is first still", x.ruled(1), -1);
        x.note(-1, 0);
        x.note(0, 1);
        due("the other three", x.ruled(0), 3);
        due("the first of them", x.ruled(1), 3);
        x.force(5);
        due("whichever is in force", x.ruled(1), 3);
    }

    static void promise29ThereIsNoneSuch() {
        says("RULED what 0: how many, 1: the first (NONE: none; -2: there is none such).");
        SpoonCourt x = Checks.at("court 1 9;thing 1", "hold 1");
        x.note(0, 0);
        x.note(0, -1);
        due("how many", x.ruled(0), 0);
        due("the first", x.ruled(1), -2);
    }

    static void promise29ForOthers() {
        says("-3 for others, or without a COURT.");
        SpoonCourt x = Checks.at(COURT);
        due("what 2", x.ruled(2), -3);
        due("what -1", x.ruled(-1), -3);
        for (int k : Checks.OUTSIDE) {
            due("what " + k, x.ruled(k), -3);
        }
        due("without a court", new SpoonCourt().ruled(0), -3);
        due("without a court, the first", new SpoonCourt().ruled(1), -3);
    }

    static void promise30MostAlikeAreFewest() {
        says("LOOK: the HOUR (0 to 60) by what he held in it these part best: the most alike are fewest");
        SpoonCourt x = Checks.at("court 1 9;thing 1;thing 1;thing 1");
        due("none alone: hour 0", x.look(0), 0);
        due("none alone: one", x.look(1), 1);
        Checks.rule(x, "hold 1 if hour=60");
        due("parted in 60 alone", x.look(0), 60);
        due("one each", x.look(1), 1);
        Checks.rule(x, "hold 1 if hour=30 or hour=60");
        due("of three two are alike: the first hour", x.look(0), 30);
        due("two", x.look(1), 2);
        Checks.rule(x, "hold 1 if hour=59 and thing=1;hold 1 if hour=60 and thing=2");
        // hour 60: nothing, 0, 0, 2; hour 59: nothing, nothing, nothing, 1
        due("of four in 60", x.look(0), 60);
        due("of four two", x.look(1), 2);
    }

    static void promise30OfSeveralTheLeast() {
        says("of several the least; how many");
        SpoonCourt x = Checks.at("court 1 9;thing 1");
        Checks.rule(x, "hold 1 if hour=7 or hour=9");
        Checks.rule(x, "hold 1 if hour=7 or hour=8");
        // hour 7: one and two; hour 8: two and one; hour 9: two and one
        due("the least", x.look(0), 7);
        due("two", x.look(1), 2);
        SpoonCourt y = Checks.at("court 1 9;thing 1;holds 0 0");
        for (int r = 0; r < 6; r++) {
            Checks.rule(y, "hold 1");
        }
        due("seven alike: hour 0", y.look(0), 0);
        due("seven", y.look(1), 7);
    }

    static void promise30SixThingsAndNothing() {
        says("by what he held in it these part best: the most alike are fewest");
        SpoonCourt x = Checks.at("court 1 9" + ";thing 1".repeat(6));
        for (int r = 0; r < 6; r++) {
            Checks.rule(x, "hold 1 if hour=42 and thing=" + r);
        }
        due("in 42 all part", x.look(0), 42);
        due("one each", x.look(1), 1);
        x.note(42, 5);
        due("the sixth alone", x.ruled(1), 5);
        due("nothing parts one", x.look(0), 0);
    }

    static void promise30TheseAlone() {
        says("by what he held in it these part best");
        SpoonCourt x = Checks.at("court 1 9;thing 1;thing 1");
        Checks.rule(x, "hold 1 if hour=5");
        Checks.rule(x, "hold 1 if hour=5 or hour=6");
        Checks.rule(x, "hold thing");
        x.note(5, 0);
        due("0 and 1 part in 6", x.look(0), 6);
        due("one each", x.look(1), 1);
    }

    static void promise30NoRuleIsSo() {
        says("LOOK what 0: the HOUR, 1: how many; -2: no RULE is so. NONE for others, or without a COURT.");
        SpoonCourt x = Checks.at(COURT);
        x.note(0, 1);
        due("the hour", x.look(0), -2);
        due("how many", x.look(1), -2);
        due("what 2", x.look(2), -1);
        due("what -1", x.look(-1), -1);
        for (int k : Checks.OUTSIDE) {
            due("what " + k, x.look(k), -1);
        }
        due("without a court", new SpoonCourt().look(0), -1);
        due("without a court, how many", new SpoonCourt().look(1), -1);
    }

    static void promise31X0To2147483647() {
        says("DRAWS: x (0 to 2147483647; 0 at first)");
        SpoonCourt x = new SpoonCourt();
        due("0 at first", x.seed(0), 0);
        due("0", x.seed(2147483647), 0);
        due("2147483647", x.count(13), 2147483647);
        due("what it was", x.seed(1), 2147483647);
    }

    static void promise31Below0() {
        says("x becomes a number: what it was; NONE, and nothing happens, below 0.");
        SpoonCourt x = new SpoonCourt();
        x.seed(7);
        due("-1", x.seed(-1), -1);
        due("the least", x.seed(Integer.MIN_VALUE), -1);
        due("nothing happened", x.count(13), 7);
        due("no act", x.count(12), 0);
    }

    private static long next(long x) {
        return (x * 1103515245L + 12345L) % 2147483648L;
    }

    static void promise32BelowP() {
        says("ahead of each a DRAW mod 100; is it below p (0 to 100)");
        SpoonCourt x = Checks.at("court 1 1;thing 1;person 0 1");
        long seed = 2147483647L;
        for (int i = 0; i < 60; i++) {
            int draw = (int) (next(seed) / 65536 % 100);
            x.seed((int) seed);
            due("p as the draw, of " + seed, x.years(1, 1, draw, 0), 0);
            due("p one more, of " + seed, x.years(1, 1, draw + 1, 0), 1);
            seed = next(seed);
        }
        due("p 100 always", x.years(10, 60, 100, 0), 600);
        due("p 0 never", x.years(10, 60, 0, 0), 0);
    }

    static void promise32ADrawModHowMany() {
        says("and are there THINGS, a DRAW mod how many: that one lies on the tray then");
        for (int things = 1; things <= 6; things++) {
            StringBuilder text = new StringBuilder("court 1 1;person 0 1");
            for (int t = 0; t < things; t++) {
                text.append(";thing ").append(t + 1);
            }
            SpoonCourt x = Checks.at(text.toString());
            long seed = 2147483646L;
            for (int i = 0; i < 40; i++) {
                x.seed((int) seed);
                due("the thing of " + seed, x.years(1, 1, 100, 1), next(next(seed)) / 65536 % things + 1);
                seed = next(seed);
            }
        }
    }

    static void promise32WithoutThings() {
        says("and are there THINGS");
        SpoonCourt x = Checks.at("court 1 1;person 0 1");
        due("dubbed by a hand", x.years(10, 60, 100, 0), 0);
        due("no ranks", x.years(10, 60, 100, 1), 0);
        due("without people", Checks.at("court 1 1;thing 1").years(10, 60, 100, 0), 0);
    }

    static void promise32XGoesOnFromDrawToDraw() {
        says("YEARS m times (1 to 10) n HOURS (1 to 60) from now on");
        int[] rank = {1, 2, 4, 8};
        SpoonCourt x = Checks.at("court 1 2;thing 1;thing 2;thing 4;thing 8;person 0 1;person 1 1");
        for (int p : new int[] {0, 30, 70, 100}) {
            x.seed(4711);
            long draw = 4711;
            int dubbings = 0;
            int ranks = 0;
            for (int m = 0; m < 10; m++) {
                int[] titles = new int[2];
                for (int h = 0; h < 7; h++) {
                    draw = next(draw);
                    if (draw / 65536 % 100 < p) {
                        draw = next(draw);
                        // they are dubbed by turns, the second one first
                        titles[1 - h % 2] |= 1 << draw / 65536 % 4;
                        dubbings++;
                    }
                }
                for (int t = 0; t < 4; t++) {
                    ranks += rank[t] * ((titles[0] >> t & 1) + (titles[1] >> t & 1));
                }
            }
            due("dubbed by p " + p, x.years(10, 7, p, 0), dubbings);
            due("ranks by p " + p, x.years(10, 7, p, 1), ranks);
            due("x as it was", x.count(13), 4711);
        }
    }

    static void promise32TrayInPlaceOfWhatLies() {
        says("that one lies on the tray then: how many are dubbed with a THING in these");
        SpoonCourt x = Checks.at("court 1 1;thing 5;person 0 1");
        x.tray(0);
        due("what lies there is held first", x.years(1, 1, 0, 0), 1);
        due("in the first hour alone", x.years(1, 60, 0, 0), 1);
        x.gloves(2);
        due("in gloves nothing is held", x.years(1, 2, 100, 0), 0);
        due("behind them it is", x.years(1, 3, 100, 0), 1);
        due("what lies there is gone", x.years(1, 3, 0, 0), 0);
        due("it lies there still", x.count(8), 0);
    }

    static void promise32TitlesOfBeforeCountInRanks() {
        says("RANKS of all TITLES of all at the end, all together (x as it was)");
        SpoonCourt x = Checks.at("court 1 99;thing 5;thing 6;person 99 0;person 99 0");
        x.tray(1);
        x.hour();
        due("once", x.years(1, 1, 0, 1), 12);
        due("ten times", x.years(10, 60, 100, 1), 120);
        SpoonCourt six = Checks.at("court 1 9;thing 20" + ";person 9 0".repeat(6));
        six.tray(0);
        due("of six people", six.years(10, 1, 0, 1), 1200);
        due("six dubbed", six.years(10, 1, 0, 0), 60);
        due("nobody is dubbed", x.years(10, 60, 100, 0), 0);
    }

    static void promise32WithoutThese() {
        says("YEARS what 0: how many, 1: RANKS. NONE without these, or a COURT.");
        SpoonCourt x = Checks.at(COURT);
        due("m 0", x.years(0, 1, 0, 0), -1);
        due("m 11", x.years(11, 1, 0, 0), -1);
        due("m -1", x.years(-1, 1, 0, 0), -1);
        due("n 0", x.years(1, 0, 0, 0), -1);
        due("n 61", x.years(1, 61, 0, 0), -1);
        due("n -1", x.years(1, -1, 0, 0), -1);
        due("p -1", x.years(1, 1, -1, 0), -1);
        due("p 101", x.years(1, 1, 101, 0), -1);
        due("what 2", x.years(1, 1, 0, 2), -1);
        due("what -1", x.years(1, 1, 0, -1), -1);
        for (int k : Checks.OUTSIDE) {
            due("m " + k, x.years(k, 1, 0, 0), -1);
            due("n " + k, x.years(1, k, 0, 0), -1);
            due("p " + k, x.years(1, 1, k, 0), -1);
            due("what " + k, x.years(1, 1, 0, k), -1);
        }
        due("the greatest", x.years(10, 60, 0, 1), 40);
        due("without a court", new SpoonCourt().years(1, 1, 0, 0), -1);
    }
}
