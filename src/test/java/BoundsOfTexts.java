/** Promises 1 to 6, sentence by sentence: what is taken at a bound, and what is refused beyond it. */
final class BoundsOfTexts {
    private BoundsOfTexts() {
    }

    private static void due(String call, long got, long want) {
        Checks.due(call, got, want);
    }

    private static void says(String words) {
        BoundsTest.says(words);
    }

    private static int court(String text) {
        return Checks.court(new SpoonCourt(), text);
    }

    private static int rule(String text) {
        return Checks.rule(new SpoonCourt(), text);
    }

    static void promise01NoCourt() {
        says("No COURT, no RULES, none IN FORCE.");
        SpoonCourt x = new SpoonCourt();
        due("day", x.count(0), 0);
        due("owed", x.count(1), 0);
        due("things", x.count(2), 0);
        due("people", x.count(3), 0);
        due("an hour", x.hour(), -1);
        due("gloves", x.gloves(1), -1);
        due("the hour", x.count(6), 0);
        due("the tape", x.count(14), 0);
    }

    static void promise01NoRules() {
        says("No COURT, no RULES, none IN FORCE.");
        SpoonCourt x = new SpoonCourt();
        due("rules", x.count(4), 0);
        due("a rule in force", x.force(0), -2);
        due("the first rule", Checks.rule(x, "hold 1"), 0);
    }

    static void promise01NoneInForce() {
        says("No COURT, no RULES, none IN FORCE.");
        SpoonCourt x = new SpoonCourt();
        due("which is", x.count(5), -1);
        due("which was", x.force(-1), -1);
        Checks.rule(x, "hold 1");
        due("a rule is not in force at once", x.count(5), -1);
    }

    static void promise01NoneIsBelow0() {
        says("The constants: `NONE = -1`: None.");
        due("NONE", SpoonCourt.NONE, -1);
    }

    static void promise01ObjectsAreParted() {
        says("No COURT, no RULES, none IN FORCE.");
        SpoonCourt one = Checks.at("court 3 9;thing 4;person 1 1", "hold 1");
        one.image(0);
        one.seed(9);
        SpoonCourt other = new SpoonCourt();
        due("day of another object", other.count(0), 0);
        due("rules of another object", other.count(4), 0);
        due("x of another object", other.count(13), 0);
        due("image of another object", other.back(0), -1);
    }

    static void promise02HighestFirst() {
        says("Twenty bytes come behind the TAPE, of each number the highest first: how many it has");
        SpoonCourt x = new SpoonCourt();
        // "cour" "t 2 " "31;t" "hing" " 17 "
        due("twenty", x.feed(0x636f7572, 0x74203220, 0x33313b74, 0x68696e67, 0x20313720), 20);
        due("the court", x.court(), 1);
        due("day", x.count(0), 2);
        due("owed", x.count(1), 31);
        due("rank", x.thing(0, 0), 17);
    }

    static void promise02BytesAbove127() {
        says("Twenty bytes come behind the TAPE, of each number the highest first: how many it has");
        SpoonCourt x = new SpoonCourt();
        // "cour" "t 1 " "1 " and bytes 255 and 128
        due("numbers below 0", x.feed(0x636f7572, 0x74203120, 0x3120ff80, -1, Integer.MIN_VALUE), 20);
        due("the first such byte", x.court(), Checks.fault(10, 0));
        x.feed(0x636f7572, 0x74203120, 0x312020e3, 0, 0);
        x.end(12);
        due("no digit, no blank of 227", x.court(), Checks.fault(11, 0));
    }

    static void promise02BehindTheTape() {
        says("Twenty bytes come behind the TAPE");
        SpoonCourt x = new SpoonCourt();
        x.feed(0x636f7572, 0x74203120, 0x39397878, 0x78787878, 0x78787878);
        x.end(10);
        // ";thi" "ng 5" and blanks come where the x were
        due("thirty", x.feed(0x3b746869, 0x6e672035, 0x20202020, 0x20202020, 0x20202020), 30);
        due("the court", x.court(), 1);
        due("rank", x.thing(0, 0), 5);
    }

    static void promise02JustFull() {
        says("if it would have more than 400");
        SpoonCourt x = new SpoonCourt();
        for (int i = 1; i <= 20; i++) {
            due("feed " + i, x.feed(0, 0, 0, 0, 0), 20 * i);
        }
        x.end(380);
        due("380 and 20", x.feed(1, 2, 3, 4, 5), 400);
        due("full", x.count(14), 400);
    }

    static void promise02MoreThan400() {
        says("NONE, and none comes, if it would have more than 400.");
        SpoonCourt x = new SpoonCourt();
        Checks.tell(x, "court 1 9" + " ".repeat(391));
        due("at 400", x.feed(0x3b3b3b3b, 0, 0, 0, 0), -1);
        due("it has 400", x.count(14), 400);
        x.end(399);
        due("at 399", x.feed(0x3b3b3b3b, 0, 0, 0, 0), -1);
        x.end(381);
        due("at 381", x.feed(0x3b3b3b3b, 0, 0, 0, 0), -1);
        due("it has 381", x.count(14), 381);
        due("none came", x.court(), 0);
    }

    static void promise03FirstBytesAlone() {
        says("The TAPE has its first n bytes alone: n;");
        SpoonCourt x = new SpoonCourt();
        Checks.tell(x, "court 1 99;thing 1");
        due("10", x.end(10), 10);
        due("it has 10", x.count(14), 10);
        due("the thing is gone", x.court(), 0);
        Checks.tell(x, "court 1 99;thing 1");
        due("9", x.end(9), 9);
        x.court();
        due("a digit is gone", x.count(1), 9);
    }

    static void promise03WhatIsCutOffIsNotRead() {
        says("The TAPE has its first n bytes alone: n;");
        String[] rules = {"hold 1 if 1<=1", "hold 1 if 1=12345", "hold rank", "hold 1 if 1=1;hold 1"};
        int[] ends = {12, 12, 8, 14};
        for (int i = 0; i < rules.length; i++) {
            SpoonCourt x = new SpoonCourt();
            Checks.tell(x, rules[i]);
            x.end(ends[i]);
            // "hold ran" has a word that can't stand there, the others end where more is wanted
            due("'" + rules[i] + "' cut off", x.rule(), i == 2 ? Checks.fault(5, 0) : Checks.fault(ends[i], 0));
        }
        SpoonCourt y = new SpoonCourt();
        Checks.tell(y, "court 1 1;thing 1   ;person");
        y.end(18);
        due("a court cut off at a blank", y.court(), 1);
        Checks.tell(y, "court 1 1;thing 123456");
        y.end(18);
        due("a number cut off", y.court(), 1);
        due("rank", y.thing(0, 0), 12);
    }

    static void promise03All() {
        says("The TAPE has its first n bytes alone: n;");
        SpoonCourt x = new SpoonCourt();
        due("0 of none", x.end(0), 0);
        x.feed(0, 0, 0, 0, 0);
        due("all", x.end(20), 20);
        due("none", x.end(0), 0);
        due("it is empty", x.count(14), 0);
        Checks.tell(x, " ".repeat(400));
        due("400", x.end(400), 400);
    }

    static void promise03NotSoMany() {
        says("NONE, and nothing happens, if it has not so many, or n is below 0.");
        SpoonCourt x = new SpoonCourt();
        due("1 of none", x.end(1), -1);
        x.feed(0, 0, 0, 0, 0);
        due("21 of 20", x.end(21), -1);
        due("it has 20", x.count(14), 20);
        x.end(7);
        due("8 of 7", x.end(8), -1);
        due("what was cut off is gone", x.end(20), -1);
        due("it has 7", x.count(14), 7);
        Checks.tell(x, " ".repeat(400));
        due("401 of 400", x.end(401), -1);
        due("most", x.end(Integer.MAX_VALUE), -1);
        due("it has 400", x.count(14), 400);
    }

    static void promise03Below0() {
        says("NONE, and nothing happens, if it has not so many, or n is below 0.");
        SpoonCourt x = new SpoonCourt();
        due("-1 of none", x.end(-1), -1);
        Checks.tell(x, "court 1 1");
        due("-1", x.end(-1), -1);
        due("the least", x.end(Integer.MIN_VALUE), -1);
        due("it has 9", x.count(14), 9);
        due("nothing happened", x.court(), 0);
    }

    static void promise04TapeIsEmptyThen() {
        says("The TAPE, which is empty then, is the COURT in place of the one there was");
        SpoonCourt x = new SpoonCourt();
        Checks.court(x, "court 1 1");
        due("behind a court", x.count(14), 0);
        Checks.court(x, "nonsense");
        due("behind a fault", x.count(14), 0);
        due("an empty tape", x.court(), Checks.fault(0, 0));
    }

    static void promise04InPlaceOfTheOneThereWas() {
        says("is the COURT in place of the one there was");
        SpoonCourt x = Checks.at("court 12 99;thing 20;thing 19;thing 18;holds 0 1;holds 1 2;holds 11 0;"
                + "person 99 9;person 98 8;quarrel 0 1;quarrel 0 2");
        due("another one", Checks.court(x, "court 2 1;thing 0;thing 1;person 0 0"), 2);
        due("day", x.count(0), 2);
        due("owed", x.count(1), 1);
        due("things", x.count(2), 2);
        due("people", x.count(3), 1);
        due("rank", x.thing(0, 0), 0);
        due("no quarrel of 0", x.thing(0, 3), 0);
        due("no quarrel of 1", x.thing(1, 3), 0);
        due("no thing 2", x.thing(2, 0), -1);
        due("hour 0", x.usual(0), -1);
        due("hour 1", x.usual(1), -1);
        due("hour 11", x.usual(11), -2);
        due("thanks", x.person(0, 0), 0);
        due("serves", x.person(0, 1), 0);
        due("no person 1", x.person(1, 0), -1);
    }

    static void promise04NothingOfATextWithAFault() {
        says("-2 - its FAULT, and all stays.");
        SpoonCourt x = new SpoonCourt();
        Checks.court(x, "court 3 9;thing 1;thing 2;holds 0 0;person 9 9;quarrel 0 1;quarrel 0 0");
        due("no court", x.count(0), 0);
        due("no hour", x.hour(), -1);
        due("the next one", Checks.court(x, "court 3 8;thing 3;thing 4"), 2);
        due("no quarrel", x.thing(0, 3), 0);
        due("nothing in hand", x.usual(0), -1);
        due("no people", x.count(3), 0);
    }

    static void promise04NoNotesNothingToBeUndone() {
        says("(no NOTES, nothing to be UNDONE; the RULE IN FORCE and x stay)");
        SpoonCourt x = Checks.at("court 1 9;thing 1;person 0 0");
        x.note(0, 0);
        x.note(60, -1);
        x.deed(0, 5);
        x.hour();
        Checks.court(x, "court 1 9;thing 1;person 0 0");
        due("notes", x.count(11), 0);
        due("none is asked of a rule", x.ruled(0), 1);
        due("acts", x.count(12), 0);
        due("undo", x.undo(), -2);
    }

    static void promise04RuleInForceAndXStay() {
        says("(no NOTES, nothing to be UNDONE; the RULE IN FORCE and x stay)");
        SpoonCourt x = Checks.at("court 1 9;thing 1");
        Checks.rule(x, "hold 1");
        Checks.rule(x, "hold 2");
        x.force(1);
        x.seed(Integer.MAX_VALUE);
        Checks.court(x, "court 1 9");
        due("the rule", x.count(5), 1);
        due("rules", x.count(4), 2);
        due("x", x.count(13), Integer.MAX_VALUE);
    }

    static void promise04HowManyThings() {
        says("how many THINGS; -2 - its FAULT, and all stays.");
        due("none", court("court 1 1"), 0);
        for (int n = 1; n <= 6; n++) {
            due("things " + n, court("court 1 1" + ";thing 1".repeat(n)), n);
        }
        due("people are none", court("court 1 1;person 1 1;thing 1;person 1 1"), 1);
    }

    static void promise04AllStaysByAFault() {
        says("-2 - its FAULT, and all stays.");
        SpoonCourt x = Checks.at("court 2 9;thing 4;thing 1;holds 0 0;person 3 2;person 0 9;quarrel 0 1",
                "hold rank");
        x.hour();
        x.deed(0, 3);
        x.tray(1);
        x.gloves(2);
        x.note(3, 0);
        x.seed(5);
        String before = Checks.state(x);
        due("a fault behind much", Checks.court(x, "court 9 9;thing 1;person 9 9;person 9 9;thing 99"),
                Checks.fault(46, 1));
        Checks.dueText("all", Checks.state(x), before);
        due("acts are undone still", x.undo(), 3);
    }

    static void promise04At400Bytes() {
        says("A COURT is a text of at most 400 bytes");
        String text = "court 1 1;thing 7";
        due("400", court(text + " ".repeat(400 - text.length())), 1);
        String held = "court 12 99" + ";thing 20".repeat(6) + ";holds 11 5".repeat(30);
        due("a byte at each place", court(held.substring(0, 65) + " ".repeat(5) + held.substring(65)), 6);
        String last = "court 1 1" + " ".repeat(382) + ";thing 19";
        SpoonCourt x = Checks.at(last);
        due("the 400th byte is read", x.thing(0, 0), 19);
    }

    static void promise04FortyClauses() {
        says("CLAUSE { ; CLAUSE }, 40 at most");
        String forty = "court 1 1;thing 1" + ";holds0 0".repeat(38);
        due("40", court(forty), 1);
        due("41", court(forty + ";holds0 0"), Checks.fault(360, 4));
        due("41, and no more than a word", court(forty + "; holds"), Checks.fault(361, 4));
    }

    static void promise04Day1To12() {
        says("DAY 1 to 12, so many hours");
        SpoonCourt x = Checks.at("court 1 1");
        due("hour 0 of 1", x.usual(0), -1);
        due("hour 1 of 1", x.usual(1), -2);
        x = Checks.at("court 12 1");
        due("hour 11 of 12", x.usual(11), -1);
        due("hour 12 of 12", x.usual(12), -2);
        due("0", court("court 0 1"), Checks.fault(6, 1));
        due("13", court("court 13 1"), Checks.fault(6, 1));
        due("99999", court("court 99999 1"), Checks.fault(6, 1));
    }

    static void promise04Owed1To99() {
        says("OWED 1 to 99");
        due("1", Checks.at("court 1 1").count(1), 1);
        due("99", Checks.at("court 1 99").count(1), 99);
        due("0", court("court 1 0"), Checks.fault(8, 1));
        due("100", court("court 1 100"), Checks.fault(8, 1));
    }

    static void promise04OnceTheFirstClause() {
        says("once, the first CLAUSE");
        due("a second one", court("court 1 1;court 1 1"), Checks.fault(10, 4));
        due("a second one far behind", court("court 1 1;thing 1 ;  court"), Checks.fault(21, 4));
        due("a thing ahead", court("thing 1;court 1 1"), Checks.fault(0, 4));
        due("a hold ahead", court("  holds 0 0;court 1 1"), Checks.fault(2, 4));
        due("a person ahead", court("person"), Checks.fault(0, 4));
        due("a quarrel ahead", court(" quarrel 0 0"), Checks.fault(1, 4));
    }

    static void promise04Rank0To20() {
        says("thing NUMBER (RANK 0 to 20)");
        SpoonCourt x = Checks.at("court 1 1;thing 0;thing 20");
        due("0", x.thing(0, 0), 0);
        due("20", x.thing(1, 0), 20);
        due("21", court("court 1 1;thing 21"), Checks.fault(16, 1));
    }

    static void promise04HoldsWithinTheDay() {
        says("the hour of a day, 0 to DAY - 1");
        SpoonCourt x = Checks.at("court 12 1;thing 1;holds 0 0;holds 11 0");
        due("0", x.usual(0), 0);
        due("11", x.usual(11), 0);
        due("10", x.usual(10), -1);
        due("12 of 12", court("court 12 1;thing 1;holds 12 0"), Checks.fault(25, 1));
        due("1 of 1", court("court 1 1;thing 1;holds 1 0"), Checks.fault(24, 1));
    }

    static void promise04HoldsAThingThatWasTold() {
        says("a THING that was told; of one hour the last told");
        due("the sixth", Checks.at("court 1 1" + ";thing 1".repeat(6) + ";holds 0 5").usual(0), 5);
        due("one beyond", court("court 1 1;thing 1;holds 0 1"), Checks.fault(26, 1));
        due("of none", court("court 1 1;holds 0 0"), Checks.fault(18, 1));
        due("told behind", court("court 1 1;holds 0 0;thing 1"), Checks.fault(18, 1));
        due("the seventh", court("court 1 1" + ";thing 1".repeat(6) + ";holds 0 6"), Checks.fault(66, 1));
    }

    static void promise04OfOneHourTheLastTold() {
        says("of one hour the last told");
        SpoonCourt x = Checks.at("court 2 1;thing 1;thing 1;thing 1;holds 1 0;holds 1 2;holds 0 0;holds 1 1");
        due("hour 1", x.usual(1), 1);
        due("hour 0", x.usual(0), 0);
    }

    static void promise04Thanks0To99() {
        says("THANKS 0 to 99; SERVES 0 to 9");
        SpoonCourt x = Checks.at("court 1 1;person 0 0;person 99 9");
        due("0", x.person(0, 0), 0);
        due("99", x.person(1, 0), 99);
        due("100", court("court 1 1;person 100 0"), Checks.fault(17, 1));
    }

    static void promise04Serves0To9() {
        says("THANKS 0 to 99; SERVES 0 to 9");
        SpoonCourt x = Checks.at("court 1 1;person 0 0;person 99 9");
        due("0", x.person(0, 1), 0);
        due("9", x.person(1, 1), 9);
        due("10", court("court 1 1;person 0 10"), Checks.fault(19, 1));
    }

    static void promise04QuarrelOfThingsThatWereTold() {
        says("two THINGS that were told; told already: nothing new");
        due("the second was not", court("court 1 1;thing 1;quarrel 0 1"), Checks.fault(28, 1));
        due("the first was not", court("court 1 1;thing 1;quarrel 1 0"), Checks.fault(26, 1));
        due("neither was", court("court 1 1;thing 1;quarrel 1 2"), Checks.fault(26, 1));
        due("told behind", court("court 1 1;thing 1;quarrel 0 1;thing 1"), Checks.fault(28, 1));
        SpoonCourt x = Checks.at("court 1 1" + ";thing 1".repeat(6) + ";quarrel 5 0;quarrel 5 4;quarrel 1 5");
        due("of the sixth", x.thing(5, 3), 1 + 2 + 16);
        due("of the first", x.thing(0, 3), 32);
        due("of the second", x.thing(1, 3), 32);
    }

    static void promise04QuarrelToldAlready() {
        says("told already: nothing new");
        SpoonCourt x = Checks.at("court 1 1;thing 1;thing 1;thing 1;quarrel 0 1;quarrel 0 1;quarrel 1 0;"
                + "quarrel 0 2;quarrel 1 0");
        due("of 0", x.thing(0, 3), 6);
        due("of 1", x.thing(1, 3), 1);
        due("of 2", x.thing(2, 3), 1);
    }

    static void promise04QuarrelWithItself() {
        says("(of quarrel the second THING, if it is the first)");
        due("the same", court("court 1 1;thing 1;quarrel 0 0"), Checks.fault(28, 1));
        due("the same behind blanks", court("court 1 1;thing 1;quarrel 0    00000"), Checks.fault(31, 1));
        due("the same, but none such", court("court 1 1;thing 1;quarrel 1 1"), Checks.fault(26, 1));
    }

    static void promise04SixThingsAndPeople() {
        says("THINGS 0 to 5, PEOPLE 0 to 5, in the order told.");
        SpoonCourt x = Checks.at("court 1 1;thing 10;person 1 0;thing 11;person 2 0;thing 12;person 3 0;"
                + "thing 13;person 4 0;thing 14;person 5 0;thing 15;person 6 0");
        for (int i = 0; i < 6; i++) {
            due("rank of " + i, x.thing(i, 0), 10 + i);
            due("thanks of " + i, x.person(i, 0), 1 + i);
        }
        due("things", x.count(2), 6);
        due("people", x.count(3), 6);
    }

    static void promise04AtFirst() {
        says("It is HOUR 0; nobody has a TITLE, the king's hands are empty, no tray, no gloves.");
        String text = "court 1 1;thing 1;thing 2;holds 0 0;person 9 9;person 5 5";
        SpoonCourt x = Checks.at(text);
        x.hour();
        x.gloves(2);
        x.hour();
        x.hour();
        x.hour();
        x.tray(1);
        x.gloves(3);
        due("held ahead of it", x.count(7), 0);
        Checks.court(x, text);
        due("hour", x.count(6), 0);
        due("who has a title", x.count(10), 0);
        due("titles", x.person(0, 2), 0);
        due("dubbed by a hand", x.person(0, 4), 0);
        due("thanks as told", x.person(0, 0), 9);
        due("held", x.count(7), -1);
        due("times", x.thing(0, 1), 0);
        due("titles by it", x.thing(0, 2), 0);
        due("tray", x.count(8), -1);
        due("gloves", x.count(9), 0);
    }

    static void promise05TapeIsEmptyThen() {
        says("The TAPE, which is empty then, is a RULE: its number; -2 - its FAULT;");
        SpoonCourt x = new SpoonCourt();
        due("without a court", Checks.rule(x, "hold 1"), 0);
        due("behind a rule", x.count(14), 0);
        due("a fault", Checks.rule(x, "hold"), Checks.fault(4, 0));
        due("behind a fault", x.count(14), 0);
        due("an empty tape", x.rule(), Checks.fault(0, 0));
        due("a fault takes no number", Checks.rule(x, "hold 2"), 1);
    }

    static void promise05SixRules() {
        says("RULES 0 to 5: texts likewise");
        SpoonCourt x = Checks.at("court 1 1" + ";thing 1".repeat(6));
        for (int r = 0; r < 6; r++) {
            due("rule " + r, Checks.rule(x, "hold 1 if thing=" + (5 - r)), r);
        }
        due("rules", x.count(4), 6);
        for (int r = 0; r < 6; r++) {
            x.force(r);
            due("held by rule " + r, x.ahead(0, 0, 0), 5 - r);
        }
    }

    static void promise05ThereAreSix() {
        says("NONE, and nothing happens: there are 6.");
        SpoonCourt x = Checks.at("court 1 1;thing 1");
        for (int r = 0; r < 6; r++) {
            Checks.rule(x, "hold 1");
        }
        Checks.tell(x, "court 2 2;thing 2;thing 3");
        String before = Checks.state(x);
        due("a seventh", x.rule(), -1);
        Checks.dueText("all", Checks.state(x), before);
        due("the tape is there still", x.court(), 2);
        due("a seventh of no text", x.rule(), -1);
        due("a seventh with a fault", Checks.rule(x, "hold hold"), -1);
    }

    static void promise05At400Bytes() {
        says("texts likewise, 12 CLAUSES at most");
        due("400", rule("hold 1" + " ".repeat(394)), 0);
        SpoonCourt x = new SpoonCourt();
        Checks.court(x, "court 1 1;thing 1");
        due("what can't stand last", Checks.rule(x, "hold 1-1" + " ".repeat(391) + "0"),
                Checks.fault(399, 0));
        due("the end behind 400", Checks.rule(x, "hold 1 if 1=1" + " ".repeat(383) + "or1="),
                Checks.fault(400, 0));
        due("the last byte is read", Checks.rule(x, "hold 1 if 12=" + " ".repeat(385) + "12"), 0);
        x.force(0);
        due("as it stands", x.ahead(0, 0, 0), 0);
    }

    static void promise05TwelveClauses() {
        says("12 CLAUSES at most");
        String twelve = "hold 0" + ";hold 0".repeat(10) + ";hold 1";
        due("12", rule(twelve), 0);
        due("13", rule(twelve + ";hold 1"), Checks.fault(84, 4));
        due("13, and no more than a word", rule(twelve + ";  hold"), Checks.fault(86, 4));
        String tests = "hold 0 if 1=2;".repeat(11) + "hold 5";
        SpoonCourt x = Checks.at("court 1 1;thing 1", tests);
        due("the twelfth is reached", x.ahead(0, 0, 0), 0);
    }

    static void promise05FiveDigits() {
        says("NUMBER (1 to 5 digits, as far as digits go on)");
        SpoonCourt x = Checks.at("court 1 1;thing 1", "hold 1 if 99999=1+99998 and 00007=7 and 00000=0");
        due("99999", x.ahead(0, 0, 0), 0);
        due("100000", rule("hold 100000"), Checks.fault(5, 1));
        due("000001", rule("hold 000001"), Checks.fault(5, 1));
        due("as far as they go on", rule("hold 1 if 1=" + "1".repeat(100)), Checks.fault(12, 1));
        due("not across a blank", rule("hold 12345 6"), Checks.fault(11, 0));
        due("of a court", court("court 00012 00099;thing 00020;person 00000 00009"), 1);
        due("of a court six", court("court 000001 1"), Checks.fault(6, 1));
    }

    static void promise05TenDeep() {
        says("[ and not lie within one another 10 deep at most");
        due("ten [", rule("hold 1 if " + "[".repeat(10) + "1=1" + "]".repeat(10)), 0);
        due("ten not", rule("hold 1 if " + "not ".repeat(10) + "1=1"), 0);
        due("five of each", rule("hold 1 if " + "not[".repeat(5) + "1=1" + "]".repeat(5)), 0);
        due("ten beside ten", rule("hold 1 if " + "[".repeat(10) + "1=1" + "]".repeat(10) + " or "
                + "not ".repeat(10) + "1=1 and " + "[".repeat(10) + "1=1" + "]".repeat(10)), 0);
        due("ten in each clause", rule("hold 1 if " + "not ".repeat(10) + "1=1;hold 1 if "
                + "not ".repeat(10) + "1=1"), 0);
        due("beside one another within nine", rule("hold 1 if " + "[".repeat(9) + "[1=1] and [1=1] or not 1=1"
                + "]".repeat(9)), 0);
    }

    static void promise05ElevenDeep() {
        says("2 too deep (at the sign that opens, or the word not)");
        due("eleven [", rule("hold 1 if " + "[".repeat(11) + "1=1" + "]".repeat(11)), Checks.fault(20, 2));
        due("eleven not", rule("hold 1 if " + "not ".repeat(11) + "1=1"), Checks.fault(50, 2));
        due("[ within ten not", rule("hold 1 if " + "not ".repeat(10) + "  [1=1]"), Checks.fault(52, 2));
        due("not within ten [", rule("hold 1 if " + "[".repeat(10) + " not 1=1"), Checks.fault(21, 2));
        due("the second within ten", rule("hold 1 if " + "[".repeat(10) + "1=1 and [1=1"),
                Checks.fault(28, 2));
        due("far more", rule("hold 1 if " + "[".repeat(390)), Checks.fault(20, 2));
    }

    static void promise05SixtyValuesAndFacts() {
        says("at most 60 VALUES (of SUMS) and FACTS made of a SIGN, together");
        due("60 values", rule("hold 1" + "+1".repeat(59)), 0);
        due("60 in clauses", rule("hold 1+1+1+1+1" + ";hold 1+1+1+1+1".repeat(11)), 0);
        // a sum of 3 and 19 facts of 3 each
        due("60 of both", rule("hold 1+1+1 if 1=1" + " or 1=1".repeat(18)), 0);
        due("[ and not are none", rule("hold 1+1+1 if not[not 1=1]" + " or not 1=1".repeat(18)), 0);
        SpoonCourt x = Checks.at("court 1 1" + ";thing 1".repeat(6));
        for (int r = 0; r < 6; r++) {
            due("60 in each rule", Checks.rule(x, "hold 1" + "+0".repeat(56) + " if thing=" + r), r);
            x.force(r);
            due("and it is worked out", x.ahead(0, 0, 0), r);
        }
        due("and they count", Checks.at("court 1 1;thing 1", "hold 1" + "+1".repeat(59)).ahead(0, 0, 0), 0);
    }

    static void promise05OneTooMany() {
        says("3 one VALUE or FACT too many (at its first byte; of a FACT at its SIGN)");
        String sixty = "hold 1" + "+1".repeat(59);
        due("a number", rule(sixty + "+ 1"), Checks.fault(126, 3));
        due("a word", rule(sixty + "*rank"), Checks.fault(125, 3));
        due("in another clause", rule(sixty + ";hold 1"), Checks.fault(130, 3));
        due("in a test", rule(sixty + " if 1=1"), Checks.fault(128, 3));
        due("a sign", rule("hold 1" + "+1".repeat(58) + " if 1 <=1"), Checks.fault(128, 3));
        due("behind a sign", rule("hold 1" + "+1".repeat(57) + " if 1=1"), Checks.fault(126, 3));
    }

    static void promise06WhichWas() {
        says("A RULE is IN FORCE (NONE: none): which was");
        SpoonCourt x = new SpoonCourt();
        for (int r = 0; r < 6; r++) {
            Checks.rule(x, "hold 1");
        }
        due("none was", x.force(5), -1);
        due("the same again", x.force(5), 5);
        due("0", x.force(0), 5);
        due("none", x.force(-1), 0);
        due("none again", x.force(-1), -1);
    }

    static void promise06NoneSuch() {
        says("-2, and nothing happens, if there is none such.");
        SpoonCourt x = new SpoonCourt();
        due("0 of none", x.force(0), -2);
        Checks.rule(x, "hold 1");
        Checks.rule(x, "hold 1");
        x.force(1);
        due("2 of two", x.force(2), -2);
        due("5 of two", x.force(5), -2);
        due("6", x.force(6), -2);
        for (int r : Checks.OUTSIDE) {
            due("rule " + r, x.force(r), -2);
        }
        due("nothing happened", x.count(5), 1);
    }

    static void promise06IsNoAct() {
        says("A RULE is IN FORCE (NONE: none): which was");
        SpoonCourt x = Checks.at("court 1 9;thing 1;person 0 0", "hold 1");
        x.hour();
        x.force(-1);
        due("acts", x.count(12), 1);
        x.force(0);
        due("the hour is undone", x.undo(), 0);
        due("the rule stays", x.count(5), 0);
    }
}
