/** Promises 17 to 22, 26 and 27, sentence by sentence: how it goes on. */
final class BoundsOfAhead {
    private static final String COURT = "court 2 10;thing 5;thing 2;holds 0 0;holds 1 1;"
            + "person 8 1;person 4 3;person 0 0";

    private BoundsOfAhead() {
    }

    private static void due(String call, long got, long want) {
        Checks.due(call, got, want);
    }

    private static void says(String words) {
        BoundsTest.says(words);
    }

    static void promise17Hours0To100() {
        says("AHEAD n HOURS (0 to 100): what he holds in the HOUR that begins then (NONE: nothing)");
        SpoonCourt x = Checks.at("court 1 9;thing 1;thing 1;person 0 0", "hold 1 if hour=100 and thing=1");
        due("0", x.ahead(0, 0, 0), -1);
        due("99", x.ahead(0, 99, 0), -1);
        due("100", x.ahead(0, 100, 0), 1);
        due("101", x.ahead(0, 101, 0), -2);
        due("-1", x.ahead(0, -1, 0), -2);
        due("101, titles", x.ahead(0, 101, 1), -2);
        due("-1, thanks", x.ahead(0, -1, 2), -2);
        for (int k : Checks.OUTSIDE) {
            due("n " + k, x.ahead(0, k, 0), -2);
        }
    }

    static void promise17OfNoNumber() {
        says("AHEAD what 0: the THING (of no number; NONE: nothing)");
        SpoonCourt x = Checks.at(COURT);
        due("number -1", x.ahead(-1, 1, 0), 1);
        due("number 6", x.ahead(6, 1, 0), 1);
        for (int k : Checks.OUTSIDE) {
            due("number " + k, x.ahead(k, 0, 0), 0);
        }
        due("without people", Checks.at("court 1 9;thing 1;holds 0 0").ahead(0, 0, 0), 0);
    }

    static void promise17OfThePerson() {
        says("1: TITLES, 2: THANKS, of the PERSON of that number.");
        SpoonCourt x = Checks.at(COURT);
        due("titles of the last", x.ahead(2, 100, 1), 0);
        due("thanks of the last", x.ahead(2, 100, 2), 0);
        due("one beyond, titles", x.ahead(3, 0, 1), -2);
        due("one beyond, thanks", x.ahead(3, 0, 2), -2);
        due("-1, titles", x.ahead(-1, 0, 1), -2);
        due("-1, thanks", x.ahead(-1, 0, 2), -2);
        for (int k : Checks.OUTSIDE) {
            due("number " + k, x.ahead(k, 0, 1), -2);
            due("what " + k, x.ahead(0, 0, k), -2);
        }
        due("what 3", x.ahead(0, 0, 3), -2);
        due("what -1", x.ahead(0, 0, -1), -2);
        due("titles then", x.ahead(1, 2, 1), 2);
        due("titles not yet", x.ahead(1, 1, 1), 0);
        due("thanks then", x.ahead(1, 1, 2), 7);
        due("the sixth", Checks.at("court 1 9" + ";person 0 1".repeat(6)).ahead(5, 8, 2), 8);
        due("dubbed in the ninth", Checks.at("court 1 9" + ";person 0 1".repeat(6)).ahead(5, 9, 2), 0);
    }

    static void promise17WithoutACourt() {
        says("-2 without these, or a COURT.");
        SpoonCourt x = new SpoonCourt();
        due("the thing", x.ahead(0, 0, 0), -2);
        due("titles", x.ahead(0, 0, 1), -2);
        due("thanks", x.ahead(0, 100, 2), -2);
    }

    static void promise17Beyond999() {
        says("HOURS go on by the RULE IN FORCE, beyond 999, too.");
        SpoonCourt x = Checks.at("court 7 99;thing 1;holds 5 0;person 0 0", "hold 1 if hour>999");
        Checks.hours(x, 999);
        due("at 999", x.ahead(0, 0, 0), -1);
        due("at 1000", x.ahead(0, 1, 0), 0);
        due("at 1099", x.ahead(0, 100, 0), 0);
        x.force(-1);
        // 999 = 7 * 142 + 5
        due("by the clock at 999", x.ahead(0, 0, 0), 0);
        due("by the clock at 1006", x.ahead(0, 7, 0), 0);
        x.deed(0, 99);
        due("dubbed in 999", x.dubbed(0, 0), 999);
        x.gloves(1);
        due("held in 1006", x.held(8, 0), 1);
        x.undo();
        due("a ring from 999", x.ring(0), 999);
        due("a day", x.ring(1), 7);
        due("spared by gloves", x.spare(0, 8, 1), 1);
        due("anyway", x.least(0, 0, 1), 0);
        due("years", x.years(1, 60, 0, 1), 1);
        due("nothing happened", x.count(6), 999);
    }

    static void promise18TheFirstHourThisOneTheFirst() {
        says("DUBBED of a PERSON: the first HOUR, this one the first, of 100, in which they are, by a hand too");
        SpoonCourt x = Checks.at("court 1 99;thing 1;holds 0 0;person 99 0;person 0 1;person 0 0;person 0 9");
        due("this one", x.dubbed(0, 0), 0);
        due("the 99th", x.dubbed(1, 0), 98);
        due("in none", x.dubbed(2, 0), -2);
        due("99 by nines", x.dubbed(3, 0), 10);
        x.hour();
        due("not again", x.dubbed(0, 0), -2);
        due("the same one", x.dubbed(1, 0), 98);
        x.slight(1, 1);
        due("one later", x.dubbed(1, 0), 99);
    }

    static void promise18ByAHandToo() {
        says("DUBBED what 0: the HOUR, 1: the THING (NONE: by a hand); -2: in none of these.");
        SpoonCourt x = Checks.at("court 1 99;thing 1;thing 1;holds 0 1;person 99 0;person 0 0;person 98 1");
        due("the thing", x.dubbed(0, 1), 1);
        x.gloves(1);
        due("by a hand", x.dubbed(0, 1), -1);
        due("by a hand: the hour", x.dubbed(0, 0), 0);
        due("in none: the thing", x.dubbed(1, 1), -2);
        due("in none: the hour", x.dubbed(1, 0), -2);
        x.slight(2, 1);
        due("behind the gloves", x.dubbed(2, 0), 1);
        due("behind the gloves with it", x.dubbed(2, 1), 1);
    }

    static void promise18WithoutThese() {
        says("-3 without these.");
        SpoonCourt x = Checks.at(COURT);
        due("one beyond", x.dubbed(3, 0), -3);
        due("-1", x.dubbed(-1, 0), -3);
        due("what 2", x.dubbed(0, 2), -3);
        due("what -1", x.dubbed(0, -1), -3);
        for (int k : Checks.OUTSIDE) {
            due("person " + k, x.dubbed(k, 0), -3);
            due("what " + k, x.dubbed(0, k), -3);
        }
        due("without a court", new SpoonCourt().dubbed(0, 0), -3);
        due("the sixth", Checks.at("court 1 9" + ";person 9 0".repeat(6)).dubbed(5, 0), 0);
    }

    static void promise19Deeds0To200() {
        says("the least DEED now, 0 to 200, by which they have that TITLE behind these (0 if they do anyway)");
        String one = "court 1 99;thing 1;person 0 0";
        due("just enough", Checks.at(one, "hold 1").least(0, 0, 1), 99);
        due("199", Checks.at(one, "hold 1 if most>198").least(0, 0, 1), 199);
        due("200", Checks.at(one, "hold 1 if most>199").least(0, 0, 1), 200);
        due("201 is not tried", Checks.at(one, "hold 1 if most>200").least(0, 0, 1), -2);
        due("0", Checks.at("court 1 99;thing 1;person 99 0", "hold 1").least(0, 0, 1), 0);
        due("1", Checks.at("court 1 99;thing 1;person 98 0", "hold 1").least(0, 0, 1), 1);
        SpoonCourt x = Checks.at("court 1 9;thing 1;holds 0 0;person 9 0");
        x.hour();
        x.gloves(9);
        due("who has it already", x.least(0, 0, 1), 0);
    }

    static void promise19ThanksAre999AtMost() {
        says("DEED (a PERSON has THANKS more, 1 to 99; 999 at most)");
        SpoonCourt x = Checks.at("court 1 99;thing 1;person 99 0", "hold 1 if most>998");
        for (int i = 0; i < 8; i++) {
            x.deed(0, 99);
        }
        due("999 of 891", x.least(0, 0, 1), 108);
        Checks.rule(x, "hold 1 if most>999");
        x.force(1);
        due("never 1000", x.least(0, 0, 1), -2);
    }

    static void promise19Hours1To60() {
        says("LEAST DEED of a PERSON for a THING and n HOURS (1 to 60)");
        SpoonCourt x = Checks.at("court 1 60;thing 1;person 0 1", "hold 1 if hour=59");
        due("60", x.least(0, 0, 60), 0);
        due("59", x.least(0, 0, 59), -2);
        due("1", x.least(0, 0, 1), -2);
        due("0", x.least(0, 0, 0), -1);
        due("61", x.least(0, 0, 61), -1);
        due("-1", x.least(0, 0, -1), -1);
        SpoonCourt y = Checks.at("court 1 61;thing 1;holds 0 0;person 0 1");
        due("one short", y.least(0, 0, 60), 1);
        due("in one hour", y.least(0, 0, 1), 60);
        for (int k : Checks.OUTSIDE) {
            due("n " + k, x.least(0, 0, k), -1);
        }
    }

    static void promise19DubbedTooEarly() {
        says("LEAST DEED; -2: by none; NONE without these.");
        // he holds the thing in hour 2 alone; who is dubbed at once by a hand is due again then
        SpoonCourt x = Checks.at("court 3 9;thing 1;thing 1;holds 2 0;person 0 5");
        due("at 5, 10", x.least(0, 0, 2), -2);
        // 4 makes 9 at once, and 5 and 10 behind it
        due("dubbed at once by a hand, and in hour 2", x.least(0, 0, 3), 4);
        due("a thing that is never held", x.least(0, 1, 60), -2);
        SpoonCourt y = Checks.at("court 2 10;thing 1;holds 1 0;person 0 0");
        due("dubbed at once or never", y.least(0, 0, 60), -2);
    }

    static void promise19HeldInAnotherWay() {
        says("by which they have that TITLE behind these");
        // in the first hour he holds 1, and 0 if somebody has 50 or more: both dub at once
        SpoonCourt x = Checks.at("court 1 10;thing 1;thing 1;person 0 0", "hold 2 if thing=0 and most>49;hold thing");
        due("thing 0", x.least(0, 0, 1), 50);
        due("thing 1", x.least(0, 1, 1), 10);
        // by a hand if 30 or more, and with thing 1 then; the next hour is by that
        SpoonCourt y = Checks.at("court 1 10;thing 1;thing 1;person 0 9",
                "hold 0 if hour=0 and most>29;hold 1 if hour=0 and thing=1;hold 1 if hour=2 and thing=0 and knights=0");
        due("dubbed by a hand first", y.least(0, 0, 3), 30);
    }

    static void promise19WithoutThese() {
        says("LEAST DEED; -2: by none; NONE without these.");
        SpoonCourt x = Checks.at(COURT);
        due("one person beyond", x.least(3, 0, 1), -1);
        due("person -1", x.least(-1, 0, 1), -1);
        due("one thing beyond", x.least(0, 2, 1), -1);
        due("thing -1", x.least(0, -1, 1), -1);
        for (int k : Checks.OUTSIDE) {
            due("person " + k, x.least(k, 0, 1), -1);
            due("thing " + k, x.least(0, k, 1), -1);
        }
        due("without a court", new SpoonCourt().least(0, 0, 1), -1);
        due("without things", Checks.at("court 1 1;person 1 1").least(0, 0, 1), -1);
        due("without people", Checks.at("court 1 1;thing 1").least(0, 0, 1), -1);
    }

    static void promise20Hours1To8() {
        says("SPARE of a THING for n HOURS (1 to 8)");
        SpoonCourt x = Checks.at("court 1 1;thing 1;holds 0 0;person 0 1");
        for (int n = 1; n <= 8; n++) {
            due("all of " + n, x.spare(0, n, 0), n);
            due("as bits", x.spare(0, n, 1), (1 << n) - 1);
        }
        due("0", x.spare(0, 0, 0), -1);
        due("9", x.spare(0, 9, 0), -1);
        due("-1", x.spare(0, -1, 1), -1);
        SpoonCourt y = Checks.at("court 1 8;thing 1;holds 0 0;person 0 1");
        due("the eighth", y.spare(0, 8, 1), 128);
        due("not behind these", y.spare(0, 7, 1), 0);
        for (int k : Checks.OUTSIDE) {
            due("n " + k, x.spare(0, k, 0), -1);
        }
    }

    static void promise20InTheOthersNoneAtAll() {
        says("sets of these HOURS in which he has gloves on (in the others none at all)");
        SpoonCourt x = Checks.at("court 1 2;thing 1;holds 0 0;person 1 1");
        // dubbed in hours 0, 2, 4
        due("without gloves", x.spare(0, 5, 1), 1 + 4 + 16);
        x.gloves(9);
        due("those he has on are off", x.spare(0, 5, 1), 1 + 4 + 16);
        due("how many", x.spare(0, 5, 0), 3);
    }

    static void promise20OfSeveralSetsTheLeast() {
        says("fewest; of several sets the least as bits (this HOUR the least bit)");
        // dubbed in hour 1 with what was held in hour 0: gloves in either hour are enough
        SpoonCourt x = Checks.at("court 1 10;thing 1;person 8 1", "hold 1 if hour=0;hold 1 if last=1");
        due("one", x.spare(0, 2, 0), 1);
        due("the least", x.spare(0, 2, 1), 1);
        due("for three hours", x.spare(0, 3, 1), 1);
        SpoonCourt y = Checks.at("court 1 10;thing 1;person 6 1", "hold 1 if hour=0;hold 1 if last=1");
        due("of four hours", y.spare(0, 4, 1), 1);
    }

    static void promise20NobodyIsDubbedWithIt() {
        says("so that nobody is dubbed with it in these");
        SpoonCourt x = Checks.at("court 2 10;thing 1;thing 1;holds 0 0;holds 1 1;person 9 1;person 8 1;person 0 0");
        due("thing 0 in hour 0", x.spare(0, 2, 1), 1);
        due("thing 1 in hour 1", x.spare(1, 2, 1), 2);
        due("thing 1 not in hour 0", x.spare(1, 1, 1), 0);
        x.hour();
        x.deed(0, 20);
        x.tray(0);
        due("who has it is dubbed again", x.spare(0, 1, 1), 1);
        due("the tray is gone in gloves", x.spare(0, 2, 0), 1);
        SpoonCourt nobody = Checks.at("court 1 1;thing 1;holds 0 0;person 0 0");
        due("nobody", nobody.spare(0, 8, 0), 0);
    }

    static void promise20WithoutThese() {
        says("SPARE what 0: how many, 1: the set. NONE without these.");
        SpoonCourt x = Checks.at(COURT);
        due("one beyond", x.spare(2, 1, 0), -1);
        due("thing -1", x.spare(-1, 1, 0), -1);
        due("what 2", x.spare(0, 1, 2), -1);
        due("what -1", x.spare(0, 1, -1), -1);
        for (int k : Checks.OUTSIDE) {
            due("thing " + k, x.spare(k, 1, 0), -1);
            due("what " + k, x.spare(0, 1, k), -1);
        }
        due("without a court", new SpoonCourt().spare(0, 1, 0), -1);
    }

    static void promise21Hours1To60() {
        says("LAY for a PERSON and n HOURS (1 to 60)");
        SpoonCourt x = Checks.at("court 1 60;thing 1;holds 0 0;person 0 1");
        due("60", x.lay(0, 60, 1), 1);
        due("59", x.lay(0, 59, 1), 0);
        due("1", x.lay(0, 1, 1), 0);
        due("0", x.lay(0, 0, 0), -2);
        due("61", x.lay(0, 61, 0), -2);
        due("-1", x.lay(0, -1, 1), -2);
        for (int k : Checks.OUTSIDE) {
            due("n " + k, x.lay(0, k, 0), -2);
        }
    }

    static void promise21NoneThenTheLeast() {
        says("are most; of several none, then the least; how much");
        SpoonCourt x = Checks.at("court 1 1;thing 3;thing 7;thing 7;holds 0 0;person 0 1");
        due("the least of several", x.lay(0, 1, 0), 1);
        due("how much", x.lay(0, 1, 1), 7);
        SpoonCourt y = Checks.at("court 1 1;thing 7;thing 7;holds 0 1;person 0 1");
        due("none ahead of all", y.lay(0, 1, 0), -1);
        due("how much by none", y.lay(0, 1, 1), 7);
        SpoonCourt z = Checks.at("court 1 1;thing 0;thing 0;person 0 1");
        due("by 0 none", z.lay(0, 60, 0), -1);
        due("0", z.lay(0, 60, 1), 0);
        SpoonCourt six = Checks.at("court 1 1;thing 1;thing 2;thing 3;thing 4;thing 5;thing 6;person 0 1");
        due("the sixth", six.lay(0, 60, 0), 5);
        due("how much by the sixth", six.lay(0, 60, 1), 6);
        due("without things", Checks.at("court 1 1;person 0 1").lay(0, 1, 0), -1);
        due("0 without things", Checks.at("court 1 1;person 0 1").lay(0, 1, 1), 0);
    }

    static void promise21InPlaceOfWhatDoes() {
        says("the THING to lie on the tray now in place of what does, or none at all");
        SpoonCourt x = Checks.at("court 1 1;thing 3;thing 7;thing 9;holds 0 2;person 0 1");
        x.tray(0);
        due("none at all", x.lay(0, 1, 0), -1);
        due("by what is usual", x.lay(0, 1, 1), 9);
        due("in two hours another one", x.lay(0, 2, 0), 1);
        due("how much", x.lay(0, 2, 1), 16);
        x.gloves(1);
        due("in gloves none", x.lay(0, 1, 0), -1);
        due("in gloves 0", x.lay(0, 1, 1), 0);
        due("it lies there still", x.count(8), 0);
    }

    static void promise21RanksOfAllTitles() {
        says("so that the RANKS of all their TITLES behind these, together, are most");
        SpoonCourt x = Checks.at("court 1 9;thing 3;thing 4;thing 5;thing 6;person 9 0;person 9 0");
        x.tray(3);
        x.hour();
        x.deed(0, 9);
        due("not the one they have", x.lay(0, 1, 0), 2);
        due("with the one they have", x.lay(0, 1, 1), 11);
        due("another person", x.lay(1, 60, 1), 6);
    }

    static void promise21WithoutThese() {
        says("LAY what 0: the THING (NONE: none), 1: how much. -2 without these.");
        SpoonCourt x = Checks.at(COURT);
        due("one beyond", x.lay(3, 1, 0), -2);
        due("person -1", x.lay(-1, 1, 0), -2);
        due("what 2", x.lay(0, 1, 2), -2);
        due("what -1", x.lay(0, 1, -1), -2);
        for (int k : Checks.OUTSIDE) {
            due("person " + k, x.lay(k, 1, 0), -2);
            due("what " + k, x.lay(0, 1, k), -2);
        }
        due("without a court", new SpoonCourt().lay(0, 1, 0), -2);
    }

    static void promise22Hours1To100() {
        says("HELD for n HOURS (1 to 100): in how many of these he holds a THING");
        SpoonCourt x = Checks.at("court 1 9;thing 1;thing 1;person 0 0", "hold 2 if hour=99 and thing=1;hold 1 if thing=0");
        x.hour();
        x.hour();
        due("what he held is past", x.held(3, 0), 3);
        x.undo();
        x.undo();
        due("all of 100", x.held(100, 0), 99);
        due("the 100th", x.held(100, 1), 1);
        due("99", x.held(99, 1), 0);
        due("1", x.held(1, 0), 1);
        due("0", x.held(0, 0), -1);
        due("101", x.held(101, 0), -1);
        due("-1", x.held(-1, 6), -1);
        for (int k : Checks.OUTSIDE) {
            due("n " + k, x.held(k, 0), -1);
            due("n " + k + ", bits", x.held(k, 6), -1);
        }
    }

    static void promise22InNone() {
        says("THINGS that he holds in none, as bits");
        SpoonCourt x = Checks.at("court 12 9" + ";thing 1".repeat(6) + ";holds 0 5;holds 1 0;holds 5 3");
        due("of 1", x.held(1, 6), 31);
        due("of 2", x.held(2, 6), 30);
        due("of 5", x.held(5, 6), 30);
        due("of 6", x.held(6, 6), 22);
        due("of 100", x.held(100, 6), 22);
        Checks.hours(x, 1);
        due("what he held is past", x.held(1, 6), 62);
        x.tray(4);
        due("the tray", x.held(1, 6), 47);
        x.gloves(9);
        due("in gloves all", x.held(9, 6), 63);
    }

    static void promise22WithoutThese() {
        says("HELD what 0 to 5: in how many that THING (NONE without it), 6: in none, as bits.");
        SpoonCourt x = Checks.at(COURT);
        due("the last", x.held(2, 1), 1);
        due("one beyond", x.held(1, 2), -1);
        due("what 5", x.held(1, 5), -1);
        due("what 7", x.held(1, 7), -1);
        due("what -1", x.held(1, -1), -1);
        for (int k : Checks.OUTSIDE) {
            due("what " + k, x.held(1, k), -1);
        }
        due("without a court", new SpoonCourt().held(1, 6), -1);
        due("a thing without a court", new SpoonCourt().held(1, 0), -1);
        due("of no things in none", Checks.at("court 1 1").held(1, 6), 0);
        due("the sixth", Checks.at("court 1 1" + ";thing 1".repeat(6) + ";holds 0 5").held(100, 5), 100);
    }

    static void promise26Deeds0To40() {
        says("each does a DEED of 0, 10, 20, 30 or 40 now (the THANKS at once, 999 at most)");
        String two = ";thing 20;holds 0 0;person 0 0;person 0 0";
        int[] owed = {10, 11, 20, 21, 30, 31, 40, 41, 50};
        int[] rest = {10, 20, 20, 30, 30, 40, 40, 0, 0};
        for (int i = 0; i < owed.length; i++) {
            SpoonCourt x = Checks.at("court 1 " + owed[i] + two);
            due("how many for " + owed[i], x.rests(0, 1, 1, 0), 1);
            due("one for " + owed[i], x.rests(0, 1, 1, 1), rest[i]);
            due("other for " + owed[i], x.rests(0, 1, 1, 2), rest[i]);
        }
    }

    static void promise26ThanksAtMost999() {
        says("(the THANKS at once, 999 at most)");
        SpoonCourt x = Checks.at("court 1 99;thing 20;person 99 0;person 0 0", "hold 1 if most>999");
        for (int i = 0; i < 10; i++) {
            x.deed(0, 99);
        }
        due("never 1000", x.rests(0, 1, 1, 1), 0);
        Checks.rule(x, "hold 1 if most>998");
        x.force(1);
        due("999 as it is", x.rests(0, 1, 1, 1), 0);
        x.slight(0, 99);
        x.deed(0, 70);
        due("999 of 970", x.rests(0, 1, 1, 1), 30);
    }

    static void promise26Hours1To20() {
        says("RESTS of two PEOPLE for n HOURS (1 to 20)");
        SpoonCourt x = Checks.at("court 1 50;thing 20;person 0 1;person 0 0", "hold 1 if hour=19");
        // 30 and 20 hours of service make 50 in the 20th
        due("20", x.rests(0, 1, 20, 1), 30);
        due("19", x.rests(0, 1, 19, 1), 0);
        due("1", x.rests(0, 1, 1, 1), 0);
        due("0", x.rests(0, 1, 0, 0), -1);
        due("21", x.rests(0, 1, 21, 0), -1);
        due("-1", x.rests(0, 1, -1, 0), -1);
        for (int k : Checks.OUTSIDE) {
            due("n " + k, x.rests(0, 1, k, 0), -1);
        }
    }

    static void promise26NeitherWouldHaveMore() {
        says("twos of which neither would have more by another one: how many");
        String two = ";holds 0 0;person 0 0;person 0 0";
        // a rank of 4 for a deed of 40 is no more than nothing for none
        due("as much is a rest", Checks.at("court 1 40;thing 4" + two).rests(0, 1, 1, 0), 4);
        due("less is none", Checks.at("court 1 40;thing 3" + two).rests(0, 1, 1, 0), 1);
        due("less: 0", Checks.at("court 1 40;thing 3" + two).rests(0, 1, 1, 1), 0);
        due("more is one", Checks.at("court 1 40;thing 5" + two).rests(0, 1, 1, 0), 1);
        due("more: 40", Checks.at("court 1 40;thing 5" + two).rests(0, 1, 1, 2), 40);
    }

    static void promise26TheFirst() {
        says("the first (by the first one, then the second one)");
        SpoonCourt x = Checks.at("court 1 10;thing 1;holds 0 0;person 0 0;person 0 0");
        due("a rank for a tenth: 0 or 10", x.rests(0, 1, 1, 0), 4);
        due("the first one", x.rests(0, 1, 1, 1), 0);
        due("then the second one", x.rests(0, 1, 1, 2), 0);
        SpoonCourt y = Checks.at("court 1 10;thing 9;holds 0 0;person 0 0;person 1 0");
        due("unlike", y.rests(0, 1, 1, 1), 10);
        SpoonCourt z = Checks.at("court 1 20;thing 9;holds 0 0;person 10 0;person 0 0");
        due("one of z", z.rests(0, 1, 1, 1), 10);
        due("other of z", z.rests(0, 1, 1, 2), 20);
        due("turned round: one", z.rests(1, 0, 1, 1), 20);
        due("turned round: other", z.rests(1, 0, 1, 2), 10);
    }

    static void promise26ThereIsNone() {
        says("RESTS what 0: how many, 1, 2: DEEDS of the first (-2: there is none).");
        // one wants the most THANKS to be a number of twenties, the other one does not
        SpoonCourt x = Checks.at("court 1 10;thing 20;thing 20;person 10 0;person 0 0",
                "hold 2-thing if most%20=0;hold 1+thing");
        x.tray(1);
        x.hour();
        x.deed(1, 10);
        x.tray(0);
        x.hour();
        x.deed(0, 10);
        x.deed(1, 10);
        due("how many", x.rests(0, 1, 1, 0), 0);
        due("the one", x.rests(0, 1, 1, 1), -2);
        due("the other", x.rests(0, 1, 1, 2), -2);
    }

    static void promise26WithoutThese() {
        says("NONE without these (unlike).");
        SpoonCourt x = Checks.at(COURT);
        due("alike", x.rests(0, 0, 1, 0), -1);
        due("alike, the last", x.rests(2, 2, 1, 0), -1);
        due("one beyond", x.rests(3, 0, 1, 0), -1);
        due("the other beyond", x.rests(0, 3, 1, 0), -1);
        due("one -1", x.rests(-1, 0, 1, 0), -1);
        due("the other -1", x.rests(0, -1, 1, 0), -1);
        due("what 3", x.rests(0, 1, 1, 3), -1);
        due("what -1", x.rests(0, 1, 1, -1), -1);
        for (int k : Checks.OUTSIDE) {
            due("one " + k, x.rests(k, 0, 1, 0), -1);
            due("the other " + k, x.rests(0, k, 1, 0), -1);
            due("what " + k, x.rests(0, 1, 1, k), -1);
        }
        due("without a court", new SpoonCourt().rests(0, 1, 1, 0), -1);
        due("of one person", Checks.at("court 1 1;person 1 1").rests(0, 1, 1, 0), -1);
    }

    static void promise27AsInThe5BehindIt() {
        says("in which he holds, as in the 5 behind it, just what he does in a later one and the 5 behind that");
        String day = "court 12 9" + ";thing 1".repeat(6);
        SpoonCourt five = Checks.at(day + holds(0, 1, 2, 3, 4, 5, 0, 1, 2, 3, 4, -1));
        due("five alike are too few", five.ring(1), 12);
        due("from the first on", five.ring(0), 0);
        SpoonCourt six = Checks.at(day + holds(0, 1, 2, 3, 4, 5, 0, 1, 2, 3, 4, 5));
        due("six are enough", six.ring(1), 6);
        SpoonCourt seven = Checks.at(day + holds(0, 0, 0, 0, 0, 0, 0, 1, 2, 3, 4, 5));
        due("the seventh may be another", seven.ring(1), 1);
        due("at once", seven.ring(0), 0);
        SpoonCourt later = Checks.at(day + holds(5, 0, 0, 0, 0, 0, 0, 0, 1, 2, 3, 4));
        due("the first hour has a later one as well", later.ring(0), 0);
        due("a day later", later.ring(1), 12);
    }

    private static String holds(int... things) {
        StringBuilder text = new StringBuilder();
        for (int clock = 0; clock < things.length; clock++) {
            if (things[clock] >= 0) {
                text.append(";holds ").append(clock).append(' ').append(things[clock]);
            }
        }
        return text.toString();
    }

    static void promise27NothingIsAlikeToo() {
        says("just what he does in a later one");
        SpoonCourt x = Checks.at("court 12 9");
        due("nothing at once", x.ring(0), 0);
        due("an hour later", x.ring(1), 1);
        SpoonCourt y = Checks.at("court 12 9;thing 1;holds 0 0;holds 1 0;holds 2 0");
        // hours 3 to 8 and 4 to 9 hold nothing, but hour 0 comes again in hour 12
        due("hour 0", y.ring(0), 0);
        due("a day", y.ring(1), 12);
        y.hour();
        due("hour 1", y.ring(0), 1);
        SpoonCourt z = Checks.at("court 12 9;thing 1", "hold 1 if hour<3");
        due("hour 3", z.ring(0), 3);
        due("the next", z.ring(1), 1);
    }

    static void promise27Of60() {
        says("RING: the first HOUR, this one the first, of 60");
        String six = "court 1 99" + ";thing 1".repeat(6);
        String wild = "hold 1 if thing=hour*hour*hour/11%6";
        SpoonCourt last = Checks.at(six, "hold 1 if hour>58;" + wild);
        due("the 60th", last.ring(0), 59);
        due("the 60th: an hour later", last.ring(1), 1);
        SpoonCourt beyond = Checks.at(six, "hold 1 if hour>59;" + wild);
        due("the 61st", beyond.ring(0), -2);
        due("the 61st: later", beyond.ring(1), -2);
        beyond.hour();
        due("an hour on it is the 60th", beyond.ring(0), 60);
    }

    static void promise27Later60HoursFromNowAtMost() {
        says("60 HOURS from now at most; how much later the first such is");
        String six = "court 1 99" + ";thing 1".repeat(6);
        String wild = "hold 1 if thing=hour*hour*hour/11%6";
        // hours 60 to 65 are as hours 0 to 5: 0 0 0 2 5 5 by wild
        SpoonCourt x = Checks.at(six, "hold 1 if hour>59 and thing=0"
                + " and hour<63;hold 0 if hour>59 and hour<63;hold 1 if hour=63 and thing=2;hold 0 if hour=63;"
                + "hold 1 if hour>63 and hour<66 and thing=5;hold 0 if hour>63;" + wild);
        due("hour 0", x.ring(0), 0);
        due("60 later", x.ring(1), 60);
        SpoonCourt y = Checks.at(six, "hold 1 if hour>60 and thing=0"
                + " and hour<64;hold 0 if hour>60 and hour<64;hold 1 if hour=64 and thing=2;hold 0 if hour=64;"
                + "hold 1 if hour>64 and hour<67 and thing=5;hold 0 if hour>64;" + wild);
        due("61 later is none", y.ring(1), -2);
        due("the first such of several", Checks.at("court 5 9;thing 1;holds 2 0").ring(1), 5);
    }

    static void promise27ForOthers() {
        says("RING what 0: the HOUR, 1: how much later; -2: there is none. NONE for others, or without a COURT.");
        SpoonCourt x = Checks.at(COURT);
        due("what 2", x.ring(2), -1);
        due("what -1", x.ring(-1), -1);
        for (int k : Checks.OUTSIDE) {
            due("what " + k, x.ring(k), -1);
        }
        due("without a court", new SpoonCourt().ring(0), -1);
        due("without a court, later", new SpoonCourt().ring(1), -1);
    }
}
