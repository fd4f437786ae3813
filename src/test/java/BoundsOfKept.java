/** Promises 33 to 35, sentence by sentence: what is counted, and images gone back to. */
final class BoundsOfKept {
    private static final String COURT = "court 3 10;thing 5;thing 2;holds 0 0;holds 1 1;"
            + "person 8 1;person 4 3;person 0 0";

    private BoundsOfKept() {
    }

    private static void due(String call, long got, long want) {
        Checks.due(call, got, want);
    }

    private static void says(String words) {
        BoundsTest.says(words);
    }

    static void promise33ForOthers() {
        says("14: bytes of the TAPE. NONE for others");
        SpoonCourt x = Checks.at(COURT);
        due("15", x.count(15), -1);
        due("-1", x.count(-1), -1);
        for (int k : Checks.OUTSIDE) {
            due("what " + k, x.count(k), -1);
        }
    }

    static void promise33WithoutACourt() {
        says("7, 8 NONE without a COURT.");
        SpoonCourt x = new SpoonCourt();
        due("held", x.count(7), -1);
        due("tray", x.count(8), -1);
        for (int what : new int[] {0, 1, 2, 3, 4, 6, 9, 10, 11, 12, 13, 14}) {
            due("what " + what, x.count(what), 0);
        }
    }

    static void promise33HeldInTheHourAhead() {
        says("7: what he held in the HOUR ahead (NONE: nothing, or there was none)");
        SpoonCourt x = Checks.at(COURT);
        due("there was none", x.count(7), -1);
        x.hour();
        due("thing 0", x.count(7), 0);
        Checks.hours(x, 2);
        due("nothing", x.count(7), -1);
        x.undo();
        due("undone", x.count(7), 1);
    }

    static void promise33TrayAndGloves() {
        says("8: what lies on the tray (NONE), 9: for how many HOURS he has gloves on");
        SpoonCourt x = Checks.at(COURT);
        due("no tray", x.count(8), -1);
        due("no gloves", x.count(9), 0);
        x.tray(0);
        x.gloves(9);
        due("thing 0", x.count(8), 0);
        due("9", x.count(9), 9);
        x.hour();
        due("gone", x.count(8), -1);
        due("8", x.count(9), 8);
    }

    static void promise33PeopleWithATitle() {
        says("10: PEOPLE with a TITLE, as bits");
        SpoonCourt x = Checks.at("court 1 9;thing 0" + ";person 0 0".repeat(6));
        x.deed(5, 9);
        x.hour();
        due("by a hand none", x.count(10), 0);
        x.deed(5, 9);
        x.tray(0);
        x.hour();
        due("the sixth, of a rank of 0", x.count(10), 32);
        for (int p = 0; p < 6; p++) {
            x.deed(p, 9);
        }
        x.tray(0);
        x.hour();
        due("all", x.count(10), 63);
        x.strip(0, 0);
        due("stripped", x.count(10), 62);
    }

    static void promise33ActsAndTape() {
        says("12: ACTS that can be UNDONE, 13: x, 14: bytes of the TAPE");
        SpoonCourt x = Checks.at(COURT);
        due("none", x.count(12), 0);
        for (int i = 0; i < 25; i++) {
            x.deed(0, 1);
        }
        due("20 at most", x.count(12), 20);
        x.undo();
        due("19", x.count(12), 19);
        x.feed(0, 0, 0, 0, 0);
        due("20 bytes", x.count(14), 20);
        x.end(3);
        due("3 bytes", x.count(14), 3);
    }

    static void promise34Images0To3() {
        says("An IMAGE is made: the HOUR; NONE without it.");
        SpoonCourt x = Checks.at(COURT);
        for (int k = 0; k < 4; k++) {
            due("image " + k, x.image(k), k);
            x.hour();
        }
        due("4", x.image(4), -1);
        due("-1", x.image(-1), -1);
        for (int k : Checks.OUTSIDE) {
            due("image " + k, x.image(k), -1);
        }
        for (int k = 3; k >= 0; k--) {
            due("back " + k, x.back(k), k);
            due("hour " + k, x.count(6), k);
        }
        due("without a court", new SpoonCourt().image(3), 0);
    }

    static void promise34InPlaceOfTheOneThereWas() {
        says("IMAGES 0 to 3: all but the RULES and the TAPE, as it is");
        SpoonCourt x = Checks.at(COURT);
        x.deed(2, 7);
        x.image(1);
        x.slight(2, 2);
        due("made anew", x.image(1), 0);
        x.slight(2, 2);
        x.back(1);
        due("thanks", x.person(2, 0), 5);
        due("acts", x.count(12), 2);
    }

    static void promise34NothingChanges() {
        says("IMAGES 0 to 3: all but the RULES and the TAPE, as it is");
        SpoonCourt x = Checks.at(COURT, "hold 1");
        x.hour();
        x.tray(1);
        x.note(1, 0);
        Checks.tell(x, "abc");
        String before = Checks.state(x);
        x.image(0);
        x.image(3);
        Checks.dueText("all", Checks.state(x), before);
    }

    static void promise35AllIsAsInAnImage() {
        says("All is as in an IMAGE: the HOUR");
        SpoonCourt x = Checks.at("court 2 5;thing 3;thing 4;thing 1;holds 0 0;holds 1 2;person 4 1;person 2 1;"
                + "quarrel 0 1", "hold rank");
        x.hour();
        x.gloves(3);
        x.deed(1, 9);
        x.hour();
        x.tray(1);
        x.note(0, 1);
        x.note(60, -1);
        x.seed(99);
        String before = Checks.state(x);
        due("image", x.image(2), 2);
        due("another court", Checks.court(x, "court 12 99" + ";thing 20;person 99 9".repeat(6)
                + ";quarrel 2 3;holds 5 5"), 6);
        x.force(-1);
        x.seed(1);
        Checks.hours(x, 3);
        x.tray(5);
        x.gloves(9);
        x.note(4, 4);
        due("back", x.back(2), 2);
        Checks.dueText("all", Checks.state(x), before);
        due("dubbed by a hand", x.person(1, 4), 1);
    }

    static void promise35NotesAsTheyWere() {
        says("gone back to, it is as it was (these stay)");
        SpoonCourt x = Checks.at("court 1 9;thing 1;thing 1");
        Checks.rule(x, "hold 1 if hour=3");
        Checks.rule(x, "hold 2-thing if hour=4");
        x.note(3, 0);
        x.image(0);
        x.note(-1, 0);
        x.note(4, 0);
        due("another note", x.ruled(1), 1);
        x.back(0);
        due("the hour and thing of the note", x.ruled(1), 0);
        x.image(1);
        x.note(-1, 0);
        x.note(3, -1);
        due("nothing noted", x.ruled(1), -1);
        x.back(1);
        due("a thing noted", x.ruled(1), 0);
    }

    static void promise35RulesAndTapeStay() {
        says("all but the RULES and the TAPE, as it is (the RULE IN FORCE, what can be UNDONE, too)");
        SpoonCourt x = Checks.at(COURT, "hold 1");
        x.image(0);
        due("another rule", Checks.rule(x, "hold thing"), 1);
        x.force(1);
        Checks.tell(x, "court 1 1;thing 1");
        x.back(0);
        due("rules", x.count(4), 2);
        due("the rule in force", x.count(5), 0);
        due("the tape", x.count(14), 17);
        x.force(1);
        due("the rule goes still", x.ahead(0, 0, 0), 1);
        due("and the text", x.court(), 1);
    }

    static void promise35TheRuleInForceToo() {
        says("(the RULE IN FORCE, what can be UNDONE, too)");
        SpoonCourt x = Checks.at(COURT);
        Checks.rule(x, "hold 1");
        x.image(0);
        x.force(0);
        x.image(1);
        x.back(0);
        due("none", x.count(5), -1);
        x.back(1);
        due("rule 0", x.count(5), 0);
    }

    static void promise35WhatCanBeUndoneToo() {
        says("(the RULE IN FORCE, what can be UNDONE, too)");
        SpoonCourt x = Checks.at(COURT);
        for (int i = 0; i < 47; i++) {
            x.deed(2, 1);
        }
        x.image(3);
        for (int i = 0; i < 11; i++) {
            x.undo();
        }
        for (int i = 0; i < 33; i++) {
            x.deed(1, 50);
        }
        x.back(3);
        due("acts", x.count(12), 20);
        for (int i = 19; i >= 0; i--) {
            due("undo", x.undo(), i);
            due("thanks", x.person(2, 0), 27 + i);
            due("thanks of the other", x.person(1, 0), 4);
        }
        due("none more", x.undo(), -2);
        x.back(3);
        due("and again", x.count(12), 20);
        due("undo again", x.undo(), 19);
        due("thanks again", x.person(2, 0), 46);
    }

    static void promise35TheseStay() {
        says("gone back to, it is as it was (these stay)");
        SpoonCourt x = Checks.at(COURT);
        x.image(0);
        x.hour();
        x.image(1);
        x.back(0);
        x.deed(0, 5);
        x.hour();
        x.hour();
        due("the other one", x.back(1), 1);
        due("the first one", x.back(0), 0);
        due("it is not touched", x.person(0, 0), 8);
        x.hour();
        due("twice", x.back(0), 0);
        Checks.court(x, "court 1 1");
        due("by a new court too", x.back(1), 1);
        due("things", x.count(2), 2);
    }

    static void promise35NeverMade() {
        says("NONE, and nothing happens, if it was never made, or without it.");
        SpoonCourt x = Checks.at(COURT);
        x.hour();
        x.deed(0, 1);
        x.image(2);
        x.deed(0, 1);
        String before = Checks.state(x);
        due("0", x.back(0), -1);
        due("1", x.back(1), -1);
        due("3", x.back(3), -1);
        due("4", x.back(4), -1);
        due("-1", x.back(-1), -1);
        for (int k : Checks.OUTSIDE) {
            due("back " + k, x.back(k), -1);
        }
        Checks.dueText("nothing happened", Checks.state(x), before);
    }

    static void promise35AnImageOfNothing() {
        says("All is as in an IMAGE: the HOUR; NONE, and nothing happens, if it was never made");
        SpoonCourt x = new SpoonCourt();
        due("never made", x.back(0), -1);
        x.image(0);
        Checks.court(x, COURT);
        x.hour();
        x.note(0, 0);
        x.seed(5);
        due("back", x.back(0), 0);
        due("no court", x.hour(), -1);
        due("no day", x.count(0), 0);
        due("no hour of it", x.usual(0), -2);
        due("no notes", x.count(11), 0);
        due("x", x.count(13), 0);
        due("nothing to be undone", x.undo(), -2);
        due("nothing held", x.count(7), -1);
    }
}
