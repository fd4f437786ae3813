/** Promises 7 to 16, sentence by sentence: what is asked of things and people, and the ACTS. */
final class BoundsOfActs {
    private static final String COURT = "court 3 10;thing 5;thing 2;thing 7;holds 0 0;holds 1 1;"
            + "person 8 1;person 4 3;person 0 0;quarrel 0 1;quarrel 2 0";
    private static final String SIX = "court 12 99" + ";thing 1;person 0 0".repeat(6);

    private BoundsOfActs() {
    }

    private static void due(String call, long got, long want) {
        Checks.due(call, got, want);
    }

    private static void says(String words) {
        BoundsTest.says(words);
    }

    /** A refused call must leave everything as it was. */
    private static void nothingHappened(SpoonCourt x, String before) {
        Checks.dueText("nothing happened: all", Checks.state(x), before);
    }

    static void promise07WithoutThese() {
        says("NONE without these.");
        SpoonCourt x = Checks.at(COURT);
        due("the last thing", x.thing(2, 0), 7);
        due("one beyond", x.thing(3, 0), -1);
        due("thing -1", x.thing(-1, 0), -1);
        due("thing 6", x.thing(6, 0), -1);
        due("what -1", x.thing(0, -1), -1);
        due("what 4", x.thing(0, 4), -1);
        for (int k : Checks.OUTSIDE) {
            due("thing " + k, x.thing(k, 0), -1);
            due("what " + k, x.thing(0, k), -1);
        }
        due("the sixth", Checks.at(SIX).thing(5, 0), 1);
        due("a seventh", Checks.at(SIX).thing(6, 0), -1);
        due("without a court", new SpoonCourt().thing(0, 0), -1);
        due("of a court without", Checks.at("court 1 1").thing(0, 0), -1);
    }

    static void promise07HoursHeld() {
        says("1: in how many HOURS he held it");
        SpoonCourt x = Checks.at(COURT);
        due("at first", x.thing(0, 1), 0);
        Checks.hours(x, 1);
        due("once", x.thing(0, 1), 1);
        x.tray(0);
        Checks.hours(x, 1);
        due("from the tray too", x.thing(0, 1), 2);
        x.gloves(2);
        Checks.hours(x, 2);
        due("not in gloves", x.thing(0, 1), 2);
        due("nor another one", x.thing(1, 1), 0);
    }

    static void promise07PeopleWithATitleByIt() {
        says("2: how many PEOPLE have a TITLE by it");
        SpoonCourt x = Checks.at("court 1 1;thing 0;thing 0;holds 0 1" + ";person 0 1".repeat(6));
        due("nobody", x.thing(1, 2), 0);
        x.hour();
        due("all six", x.thing(1, 2), 6);
        x.hour();
        due("none twice", x.thing(1, 2), 6);
        due("of another one", x.thing(0, 2), 0);
        x.strip(5, 1);
        due("one less", x.thing(1, 2), 5);
    }

    static void promise07QuarrelsAsBits() {
        says("3: THINGS it quarrels with, as bits");
        SpoonCourt x = Checks.at("court 1 1" + ";thing 1".repeat(6)
                + ";quarrel 0 5;quarrel 0 1;quarrel 4 0;quarrel 3 0;quarrel 0 2");
        due("with all", x.thing(0, 3), 62);
        due("with one", x.thing(5, 3), 1);
        due("with none", Checks.at(SIX).thing(5, 3), 0);
    }

    static void promise08HourOfTheDay() {
        says("What he has in hand at an hour of the day, as told (NONE: nothing)");
        SpoonCourt x = Checks.at("court 12 9;thing 1;thing 2;holds 0 1;holds 11 0");
        due("the first", x.usual(0), 1);
        due("the last", x.usual(11), 0);
        due("nothing", x.usual(5), -1);
        x.tray(1);
        x.gloves(1);
        due("as told, in gloves too", x.usual(0), 1);
        Checks.hours(x, 3);
        due("as told at any hour", x.usual(0), 1);
    }

    static void promise08WithoutSuchAnHour() {
        says("-2 without such an hour, or a COURT.");
        SpoonCourt x = Checks.at("court 3 9;thing 1;holds 2 0");
        due("the last", x.usual(2), 0);
        due("one beyond", x.usual(3), -2);
        due("-1", x.usual(-1), -2);
        due("12", x.usual(12), -2);
        for (int k : Checks.OUTSIDE) {
            due("hour " + k, x.usual(k), -2);
        }
        due("without a court", new SpoonCourt().usual(0), -2);
    }

    static void promise09WithoutThese() {
        says("4: how often they were dubbed by a hand. NONE without these.");
        SpoonCourt x = Checks.at(COURT);
        due("the last person", x.person(2, 0), 0);
        due("one beyond", x.person(3, 0), -1);
        due("person -1", x.person(-1, 0), -1);
        due("what -1", x.person(0, -1), -1);
        due("what 5", x.person(0, 5), -1);
        for (int k : Checks.OUTSIDE) {
            due("person " + k, x.person(k, 0), -1);
            due("what " + k, x.person(0, k), -1);
        }
        due("the sixth", Checks.at(SIX).person(5, 1), 0);
        due("a seventh", Checks.at(SIX).person(6, 1), -1);
        due("without a court", new SpoonCourt().person(0, 0), -1);
        due("of a court without", Checks.at("court 1 1").person(0, 0), -1);
    }

    static void promise09TitlesAndRank() {
        says("2: TITLES, as bits, 3: RANK of these together");
        SpoonCourt x = Checks.at("court 1 1" + ";thing 20".repeat(6) + ";person 0 1;person 0 0");
        for (int t = 0; t < 6; t++) {
            x.tray(t);
            x.hour();
        }
        due("all six", x.person(0, 2), 63);
        due("together", x.person(0, 3), 120);
        due("of nobody", x.person(1, 2), 0);
        due("rank of nobody", x.person(1, 3), 0);
    }

    static void promise09DubbedByAHand() {
        says("4: how often they were dubbed by a hand");
        SpoonCourt x = Checks.at("court 1 1;thing 1;person 0 1;person 0 0");
        due("never", x.person(0, 4), 0);
        Checks.hours(x, 3);
        due("three times", x.person(0, 4), 3);
        x.tray(0);
        x.hour();
        due("with a thing it is not", x.person(0, 4), 3);
        due("who was not dubbed", x.person(1, 4), 0);
    }

    static void promise10WithoutACourt() {
        says("NONE, and nothing happens, without a COURT, or at HOUR 999.");
        SpoonCourt x = new SpoonCourt();
        String before = Checks.state(x);
        due("hour", x.hour(), -1);
        nothingHappened(x, before);
        due("undo", x.undo(), -2);
    }

    static void promise10At999() {
        says("HOUR is 1 more (999 at most)");
        SpoonCourt x = Checks.at("court 10 99;thing 1;holds 8 0;person 0 0");
        Checks.hours(x, 998);
        due("998", x.count(6), 998);
        due("the hour that makes 999", x.hour(), 0);
        due("it holds as clock 8 does", x.count(7), 0);
        due("999", x.count(6), 999);
        x.gloves(3);
        x.tray(0);
        String before = Checks.state(x);
        due("beyond", x.hour(), -1);
        nothingHappened(x, before);
        x.undo();
        x.undo();
        due("two acts are undone", x.undo(), 17);
        due("the hour too", x.count(6), 998);
        due("and it goes on", x.hour(), 0);
    }

    static void promise10PeopleAsBits() {
        says("PEOPLE who are dubbed in it, by a hand too, as bits");
        SpoonCourt x = Checks.at("court 1 10;thing 1;holds 0 0;person 9 1;person 9 0;person 10 0;person 0 9;"
                + "person 1 9;person 99 9");
        due("with a thing", x.hour(), 1 + 4 + 16 + 32);
        x.gloves(1);
        due("by a hand too", x.hour(), 8);
        due("nobody", Checks.at("court 1 10;person 9 0").hour(), 0);
        due("of nobody", Checks.at("court 1 1").hour(), 0);
    }

    static void promise10OwedOrMore() {
        says("PEOPLE by numbers, whose THANKS are OWED or more: they are dubbed");
        SpoonCourt x = Checks.at("court 1 50;thing 1;holds 0 0;person 49 0;person 50 0;person 51 0;"
                + "person 48 1;person 48 2;person 99 9");
        due("from 50 on", x.hour(), 2 + 4 + 16 + 32);
        due("one short keeps them", x.person(0, 0), 49);
        due("one short with service too", x.person(3, 0), 49);
    }

    static void promise10ThanksAre0Then() {
        says("their THANKS are 0");
        SpoonCourt x = Checks.at("court 1 5;thing 1;holds 0 0;person 99 9;person 0 5");
        x.hour();
        due("of much", x.person(0, 0), 0);
        due("of just as much", x.person(1, 0), 0);
        x.gloves(1);
        due("again by a hand", x.hour(), 3);
        due("0 by a hand too", x.person(0, 0), 0);
    }

    static void promise10OneOfEachAtMost() {
        says("(one of each for a PERSON at most)");
        SpoonCourt x = Checks.at("court 1 1;thing 9;holds 0 0;person 0 1");
        due("once", x.hour(), 1);
        due("and again", x.hour(), 1);
        due("titles", x.person(0, 2), 1);
        due("rank", x.person(0, 3), 9);
    }

    static void promise10GlovesAheadOfTheTray() {
        says("nothing, if he has gloves on; else what lies on the tray");
        SpoonCourt x = Checks.at("court 1 1;thing 9;thing 8;holds 0 0;person 0 1", "hold 1");
        x.tray(1);
        x.gloves(1);
        due("dubbed", x.hour(), 1);
        due("with nothing", x.count(7), -1);
        due("by a hand", x.person(0, 4), 1);
        x.tray(1);
        x.hour();
        due("with what lay there", x.person(0, 2), 2);
    }

    static void promise10TrayIsGoneInGlovesToo() {
        says("The tray is gone then, in gloves, too; he has gloves on for an HOUR less.");
        SpoonCourt x = Checks.at("court 1 9;thing 1");
        x.tray(0);
        x.gloves(9);
        for (int left = 8; left >= 0; left--) {
            x.hour();
            due("tray", x.count(8), -1);
            due("gloves", x.count(9), left);
            due("held", x.count(7), -1);
        }
        x.hour();
        due("never below 0", x.count(9), 0);
        x.tray(0);
        x.hour();
        due("held from the tray", x.count(7), 0);
        due("gone without gloves too", x.count(8), -1);
    }

    static void promise10WithoutARule() {
        says("without a RULE the one that he has in hand at this hour of the day as told, if there is one");
        SpoonCourt x = Checks.at("court 3 9;thing 1;thing 1;holds 0 1;holds 2 0");
        int[] wanted = {1, -1, 0, 1, -1, 0, 1};
        for (int h = 0; h < wanted.length; h++) {
            x.hour();
            due("held in " + h, x.count(7), wanted[h]);
        }
        SpoonCourt one = Checks.at("court 1 9;thing 1;holds 0 0");
        Checks.hours(one, 5);
        due("a day of an hour", one.thing(0, 1), 5);
    }

    static void promise11Much1To99() {
        says("DEED (a PERSON has THANKS more, 1 to 99; 999 at most)");
        SpoonCourt x = Checks.at(COURT);
        due("1", x.deed(0, 1), 9);
        due("99", x.deed(0, 99), 108);
        String before = Checks.state(x);
        due("0", x.deed(0, 0), -1);
        due("-1", x.deed(0, -1), -1);
        due("100", x.deed(0, 100), -1);
        for (int k : Checks.OUTSIDE) {
            due("much " + k, x.deed(0, k), -1);
        }
        nothingHappened(x, before);
    }

    static void promise11At999() {
        says("DEED (a PERSON has THANKS more, 1 to 99; 999 at most)");
        SpoonCourt x = Checks.at("court 1 99;person 99 0");
        for (int i = 0; i < 9; i++) {
            x.deed(0, 99);
        }
        due("990", x.person(0, 0), 990);
        due("just 999", x.deed(0, 9), 999);
        due("1 beyond", x.deed(0, 1), 999);
        due("99 beyond", x.deed(0, 99), 999);
        due("an act all the same", x.count(12), 12);
        x.undo();
        x.undo();
        x.undo();
        due("undone", x.person(0, 0), 990);
        due("10 of which one is lost", x.deed(0, 10), 999);
    }

    static void promise11WithoutThese() {
        says("DEED: THANKS then; NONE, and nothing happens, without these.");
        SpoonCourt x = Checks.at(COURT);
        String before = Checks.state(x);
        due("one beyond", x.deed(3, 1), -1);
        due("-1", x.deed(-1, 1), -1);
        due("6", x.deed(6, 1), -1);
        for (int k : Checks.OUTSIDE) {
            due("person " + k, x.deed(k, 1), -1);
        }
        nothingHappened(x, before);
        due("without a court", new SpoonCourt().deed(0, 1), -1);
        due("the sixth", Checks.at(SIX).deed(5, 7), 7);
    }

    static void promise11DubsNobody() {
        says("DEED: THANKS then");
        SpoonCourt x = Checks.at("court 1 5;thing 1;holds 0 0;person 0 0");
        due("more than is owed", x.deed(0, 99), 99);
        due("no title yet", x.person(0, 2), 0);
        due("in the hour", x.hour(), 1);
    }

    static void promise12AsMuchThanks() {
        says("SLIGHT (a PERSON has as much THANKS: so much less, 1 to 99)");
        SpoonCourt x = Checks.at(COURT);
        due("some", x.slight(0, 3), 5);
        String before = Checks.state(x);
        due("one more than there is", x.slight(0, 6), -1);
        due("of who has none", x.slight(2, 1), -1);
        nothingHappened(x, before);
        due("all", x.slight(0, 5), 0);
        due("of nothing", x.slight(0, 1), -1);
    }

    static void promise12Much1To99() {
        says("SLIGHT (a PERSON has as much THANKS: so much less, 1 to 99)");
        SpoonCourt x = Checks.at("court 1 99;person 99 0");
        x.deed(0, 99);
        String before = Checks.state(x);
        due("100", x.slight(0, 100), -1);
        due("0", x.slight(0, 0), -1);
        due("-1", x.slight(0, -1), -1);
        for (int k : Checks.OUTSIDE) {
            due("much " + k, x.slight(0, k), -1);
        }
        nothingHappened(x, before);
        due("99", x.slight(0, 99), 99);
        due("1", x.slight(0, 1), 98);
    }

    static void promise12WithoutThese() {
        says("SLIGHT: THANKS then; NONE, and nothing happens, without these.");
        SpoonCourt x = Checks.at(COURT);
        String before = Checks.state(x);
        due("one beyond", x.slight(3, 1), -1);
        due("-1", x.slight(-1, 1), -1);
        due("6", x.slight(6, 1), -1);
        for (int k : Checks.OUTSIDE) {
            due("person " + k, x.slight(k, 1), -1);
        }
        nothingHappened(x, before);
        due("without a court", new SpoonCourt().slight(0, 1), -1);
        due("the sixth", Checks.at("court 1 9" + ";person 7 0".repeat(6)).slight(5, 7), 0);
    }

    static void promise13AnotherOneThanDoes() {
        says("TRAY (a THING lies there, another one than does, or nothing does, if one does)");
        SpoonCourt x = Checks.at(COURT);
        due("one", x.tray(2), -1);
        String before = Checks.state(x);
        due("the same", x.tray(2), -2);
        nothingHappened(x, before);
        due("another one", x.tray(0), 2);
        due("acts", x.count(12), 2);
    }

    static void promise13NothingIfOneDoes() {
        says("or nothing does, if one does");
        SpoonCourt x = Checks.at(COURT);
        String before = Checks.state(x);
        due("nothing, if nothing does", x.tray(-1), -2);
        nothingHappened(x, before);
        x.tray(1);
        due("nothing, if one does", x.tray(-1), 1);
        due("nothing lies there", x.count(8), -1);
        due("nothing again", x.tray(-1), -2);
    }

    static void promise13WithoutThese() {
        says("what lay there (NONE: nothing); -2, and nothing happens, without these.");
        SpoonCourt x = Checks.at(COURT);
        x.tray(0);
        String before = Checks.state(x);
        due("one beyond", x.tray(3), -2);
        due("6", x.tray(6), -2);
        for (int k : Checks.OUTSIDE) {
            due("thing " + k, x.tray(k), -2);
        }
        nothingHappened(x, before);
        due("without a court", new SpoonCourt().tray(0), -2);
        due("nothing without a court", new SpoonCourt().tray(-1), -2);
        due("the sixth", Checks.at(SIX).tray(5), -1);
    }

    static void promise14Hours1To9() {
        says("GLOVES (he has them on for so many HOURS from now, 1 to 9, in place of what it was)");
        SpoonCourt x = Checks.at(COURT);
        due("9", x.gloves(9), 0);
        due("1", x.gloves(1), 9);
        String before = Checks.state(x);
        due("0", x.gloves(0), -1);
        due("-1", x.gloves(-1), -1);
        due("10", x.gloves(10), -1);
        for (int k : Checks.OUTSIDE) {
            due("hours " + k, x.gloves(k), -1);
        }
        nothingHappened(x, before);
        due("the same is one too", x.gloves(1), 1);
        due("acts", x.count(12), 3);
    }

    static void promise14InPlaceOfWhatItWas() {
        says("in place of what it was");
        SpoonCourt x = Checks.at("court 1 9;thing 1;holds 0 0");
        x.gloves(5);
        x.hour();
        due("four are left", x.gloves(2), 4);
        due("two, not six", x.count(9), 2);
        Checks.hours(x, 2);
        due("held none", x.thing(0, 1), 0);
        x.hour();
        due("then he holds", x.count(7), 0);
    }

    static void promise14WithoutACourt() {
        says("GLOVES: for how many HOURS he had them on; NONE, and nothing happens, for others, or without a COURT.");
        SpoonCourt x = new SpoonCourt();
        due("gloves", x.gloves(1), -1);
        due("nothing happened", x.count(9), 0);
        due("acts", x.count(12), 0);
        due("of a court of nothing", Checks.at("court 1 1").gloves(1), 0);
    }

    static void promise15HasATitleNoMore() {
        says("STRIP (a PERSON has a TITLE of that THING no more)");
        SpoonCourt x = Checks.at("court 1 1" + ";thing 1".repeat(6) + ";person 0 1;person 0 0");
        x.tray(5);
        x.hour();
        x.tray(0);
        x.hour();
        String before = Checks.state(x);
        due("a title they have not", x.strip(0, 3), -1);
        due("who has none", x.strip(1, 5), -1);
        nothingHappened(x, before);
        due("one of two", x.strip(0, 5), 1);
        due("not twice", x.strip(0, 5), -1);
        due("the other one", x.strip(0, 0), 0);
        due("nobody has any", x.count(10), 0);
        x.tray(5);
        x.hour();
        due("and has it again", x.person(0, 2), 32);
    }

    static void promise15WithoutThese() {
        says("STRIP: TITLES then, as bits; NONE, and nothing happens, without these.");
        SpoonCourt x = Checks.at("court 1 1;thing 1;thing 1;holds 0 0;person 0 1");
        x.hour();
        String before = Checks.state(x);
        due("one person beyond", x.strip(1, 0), -1);
        due("person -1", x.strip(-1, 0), -1);
        due("person 6", x.strip(6, 0), -1);
        due("one thing beyond", x.strip(0, 2), -1);
        due("thing -1", x.strip(0, -1), -1);
        due("thing 32, as bits thing 0", x.strip(0, 32), -1);
        for (int k : Checks.OUTSIDE) {
            due("person " + k, x.strip(k, 0), -1);
            due("thing " + k, x.strip(0, k), -1);
        }
        nothingHappened(x, before);
        due("without a court", new SpoonCourt().strip(0, 0), -1);
    }

    static void promise16TheLast20() {
        says("The last 20 ACTS can be UNDONE, the last first.");
        SpoonCourt x = Checks.at("court 1 99;person 0 0");
        for (int i = 1; i <= 20; i++) {
            x.deed(0, 1);
            due("acts", x.count(12), i);
        }
        x.deed(0, 50);
        due("20 at most", x.count(12), 20);
        due("the last first", x.undo(), 19);
        due("thanks", x.person(0, 0), 20);
        for (int i = 18; i >= 0; i--) {
            due("undo", x.undo(), i);
        }
        due("the first one stays", x.person(0, 0), 1);
        due("none more", x.undo(), -2);
        due("thanks stay", x.person(0, 0), 1);
    }

    static void promise16ActsBehindUndoneOnes() {
        says("The last 20 ACTS can be UNDONE, the last first.");
        SpoonCourt x = Checks.at("court 1 99;person 0 0");
        for (int i = 0; i < 33; i++) {
            x.deed(0, 1);
        }
        for (int i = 0; i < 7; i++) {
            x.undo();
        }
        due("13 are left", x.count(12), 13);
        for (int i = 0; i < 9; i++) {
            x.deed(0, 2);
        }
        due("20 again", x.count(12), 20);
        for (int i = 0; i < 20; i++) {
            x.undo();
        }
        // 33 - 7 = 26 and 9 acts more: 20 of the 35 are undone
        due("thanks", x.person(0, 0), 15);
        due("none more", x.undo(), -2);
    }

    static void promise16NoneCan() {
        says("The last ACT is UNDONE: how many more can be; -2, and nothing happens: none can.");
        SpoonCourt x = Checks.at(COURT);
        String before = Checks.state(x);
        due("none was", x.undo(), -2);
        nothingHappened(x, before);
        x.deed(9, 1);
        x.slight(2, 1);
        x.tray(-1);
        x.gloves(0);
        x.strip(0, 0);
        due("a refused one is none", x.undo(), -2);
        due("without a court", new SpoonCourt().undo(), -2);
    }

    static void promise16AnHourIsUndoneWhole() {
        says("The last ACT is UNDONE");
        SpoonCourt x = Checks.at("court 2 5;thing 3;thing 4;holds 0 0;person 4 1;person 2 1");
        x.hour();
        x.gloves(2);
        x.tray(1);
        x.deed(1, 9);
        String before = Checks.state(x);
        due("dubbed by a hand", x.hour(), 2);
        due("so it was", x.person(1, 4), 1);
        x.undo();
        x.deed(0, 1);
        x.undo();
        Checks.dueText("all as it was", Checks.state(x), before);
        x.undo();
        x.undo();
        x.undo();
        due("the first hour", x.undo(), 0);
        due("times", x.thing(0, 1), 0);
        due("titles", x.person(0, 2), 0);
        due("thanks", x.person(0, 0), 4);
        due("held", x.count(7), -1);
        due("hour", x.count(6), 0);
    }

    static void promise16EachActIsUndone() {
        says("ACTS: an HOUR; DEED");
        SpoonCourt x = Checks.at("court 1 5;thing 3;thing 4;holds 0 0;person 5 1;person 2 1");
        x.hour();
        x.tray(0);
        x.gloves(3);
        String before = Checks.state(x);
        x.slight(1, 2);
        x.undo();
        x.deed(1, 7);
        x.undo();
        x.tray(1);
        x.undo();
        x.tray(-1);
        x.undo();
        x.gloves(9);
        x.undo();
        x.strip(0, 0);
        due("acts", x.undo(), 3);
        Checks.dueText("all as it was", Checks.state(x), before);
    }

    static void promise16WhatIsNoAct() {
        says("ACTS: an HOUR; DEED");
        SpoonCourt x = Checks.at(COURT);
        x.deed(0, 1);
        Checks.rule(x, "hold 1");
        x.force(0);
        x.seed(44);
        x.note(1, 1);
        x.image(1);
        due("acts", x.count(12), 1);
        due("the deed", x.undo(), 0);
        due("the rule in force stays", x.count(5), 0);
        due("rules stay", x.count(4), 1);
        due("x stays", x.count(13), 44);
        due("notes stay", x.count(11), 1);
        due("the image stays", x.back(1), 0);
    }
}
