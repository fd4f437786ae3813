/** Promises 7 to 16, and what a RULE says of a THING: the court by hand. */
public final class ActsTest {
    private static final String COURT = "court 3 10;thing 5;thing 2;thing 7;holds 0 0;holds 1 1;"
            + "person 8 1;person 4 3;person 0 0;quarrel 0 1;quarrel 2 0";

    public static void main(String[] args) {
        promise7();
        promise8();
        promise9();
        promise10();
        promise10OrderOfHands();
        promise10At999();
        wordsOfRules();
        sumsOfRules();
        testsOfRules();
        promise11();
        promise12();
        promise13();
        promise14();
        promise15();
        promise16();
        Checks.finish("ActsTest");
    }

    private static void due(String call, long got, long want) {
        Checks.due(call, got, want);
    }

    private static void promise7() {
        SpoonCourt x = Checks.at(COURT);
        due("rank", x.thing(2, 0), 7);
        due("quarrels of 0", x.thing(0, 3), 6);
        due("quarrels of 2", x.thing(2, 3), 1);
        due("thing 3", x.thing(3, 0), -1);
        due("thing -1", x.thing(-1, 0), -1);
        due("what 4", x.thing(0, 4), -1);
        due("what -1", x.thing(0, -1), -1);
        due("without a court", new SpoonCourt().thing(0, 3), -1);
        Checks.hours(x, 4);
        due("times of 0", x.thing(0, 1), 2);
        due("times of 1", x.thing(1, 1), 1);
        due("times of 2", x.thing(2, 1), 0);
        due("titles by 1", x.thing(1, 2), 2);
        due("titles by 0", x.thing(0, 2), 0);
    }

    private static void promise8() {
        SpoonCourt x = Checks.at("court 12 10;thing 5;thing 1;holds 11 1;holds 3 0;holds 3 1");
        due("hour 11", x.usual(11), 1);
        due("hour 3", x.usual(3), 1);
        due("hour 0", x.usual(0), -1);
        due("hour 12", x.usual(12), -2);
        due("hour -1", x.usual(-1), -2);
        due("without a court", new SpoonCourt().usual(0), -2);
    }

    private static void promise9() {
        SpoonCourt x = Checks.at(COURT);
        due("thanks", x.person(1, 0), 4);
        due("serves", x.person(1, 1), 3);
        due("what 5", x.person(1, 5), -1);
        due("what -1", x.person(1, -1), -1);
        due("person 3", x.person(3, 0), -1);
        due("person -1", x.person(-1, 0), -1);
        due("without a court", new SpoonCourt().person(0, 4), -1);
        Checks.hours(x, 2);
        x.deed(0, 10);
        x.tray(2);
        x.hour();
        due("titles", x.person(0, 2), 6);
        due("rank", x.person(0, 3), 9);
        x.deed(0, 10);
        x.gloves(1);
        x.hour();
        due("by a hand", x.person(0, 4), 1);
        due("thanks are gone", x.person(0, 0), 0);
        due("titles stay", x.person(0, 2), 6);
    }

    private static void promise10() {
        SpoonCourt x = Checks.at(COURT);
        due("hour 0", x.hour(), 0);
        due("hour 1", x.hour(), 3);
        due("held", x.count(7), 1);
        due("hour 2", x.hour(), 0);
        due("nothing held", x.count(7), -1);
        due("hours", x.count(6), 3);
        due("without a court", new SpoonCourt().hour(), -1);
        SpoonCourt by = Checks.at("court 1 99;person 98 1;person 99 0;person 98 0");
        due("who has as much already", by.hour(), 3);
        due("by a hand", by.person(0, 4), 1);
        due("no title", by.person(0, 2), 0);
        SpoonCourt often = Checks.at("court 2 9;thing 20;holds 0 0;holds 1 0;person 0 9");
        due("each hour", often.hour() + often.hour() + often.hour(), 3);
        due("one of each", often.person(0, 3), 20);
    }

    private static void promise10OrderOfHands() {
        SpoonCourt x = Checks.at("court 1 9;thing 1;thing 2;thing 3;holds 0 0", "hold thing");
        x.tray(1);
        x.gloves(2);
        x.hour();
        due("gloves ahead of the tray", x.count(7), -1);
        due("the tray is gone in gloves", x.count(8), -1);
        due("gloves for an hour less", x.count(9), 1);
        x.tray(1);
        x.hour();
        due("still in gloves", x.count(7), -1);
        due("no more gloves", x.count(9), 0);
        x.tray(1);
        x.hour();
        due("the tray ahead of the rule", x.count(7), 1);
        due("the tray is gone", x.count(8), -1);
        x.hour();
        due("the rule", x.count(7), 2);
        x.force(-1);
        x.hour();
        due("as told without a rule", x.count(7), 0);
        Checks.rule(x, "hold 0");
        x.force(1);
        x.hour();
        due("not above 0: nothing", x.count(7), -1);
    }

    private static void promise10At999() {
        SpoonCourt x = Checks.at("court 1 99;thing 1;person 0 0");
        for (int i = 0; i < 999; i++) {
            if (x.hour() != 0) {
                due("hour " + i, 1, 0);
            }
        }
        due("hour 999", x.hour(), -1);
        due("it stays", x.count(6), 999);
        due("twenty acts", x.count(12), 20);
        due("a deed goes still", x.deed(0, 99), 99);
        due("beyond 999", x.dubbed(0, 0), 999);
        Checks.rule(x, "hold 1 if hour=1001");
        x.force(0);
        due("held at 1001", x.ahead(0, 2, 0), 0);
        due("held at 1000", x.ahead(0, 1, 0), -1);
    }

    private static int heldThen(String court, String rule, int n) {
        return Checks.at(court, rule).ahead(0, n, 0);
    }

    private static void wordsOfRules() {
        String three = "court 3 10;thing 4;thing 9;thing 9;holds 1 2;person 3 4;person 12 0";
        due("thing", heldThen(three, "hold thing", 0), 2);
        due("rank, of several the least", heldThen(three, "hold rank", 0), 1);
        due("clock 1", heldThen(three, "hold 1 if clock=1", 4), 0);
        due("clock 0", heldThen(three, "hold 1 if clock=1", 3), -1);
        due("usual", heldThen(three, "hold 1+usual", 1), 2);
        due("not usual", heldThen(three, "hold 1+usual", 2), 0);
        due("last at first", heldThen(three, "hold 1 if last=1", 0), -1);
        due("last, turn 0", heldThen(three, "hold 2-last", 0), 0);
        due("last, turn 1", heldThen(three, "hold 2-last", 1), 1);
        due("last, turn 2", heldThen(three, "hold 2-last", 2), 0);
        due("times, turn 2", heldThen(three, "hold 9-times", 2), 2);
        due("times, turn 3", heldThen(three, "hold 9-times", 3), 0);
        // person 1 is dubbed with thing 0 in hour 0, person 0 in hour 1
        due("titles", heldThen(three, "hold 9-thing if hour<2;hold titles*thing+1-titles", 2), 1);
        due("two titles", heldThen(three, "hold 9-thing if hour<2;hold thing+1 if titles=2", 2), 0);
        due("due at first", heldThen(three, "hold 1 if due=1", 0), 0);
        due("due as the hour begins", heldThen(three, "hold 1 if due=1", 1), -1);
        due("due with just as much", heldThen("court 1 9;thing 1;person 9 0", "hold 1 if due=1", 0), 0);
        due("last is 1", heldThen(three, "hold 3-last*2", 2), 0);
        due("knights", heldThen(three, "hold 1 if hour<2;hold 2+thing if knights=2", 2), 2);
        due("knights at first", heldThen(three, "hold 1 if knights=0", 0), 0);
        due("most", heldThen(three, "hold 1 if most=12", 0), 0);
        due("most then", heldThen(three, "hold 1 if most=7", 1), 0);
        due("most of nobody", heldThen("court 1 1;thing 1", "hold 1 if most=0 and people=0", 0), 0);
        due("people", heldThen(three, "hold 1 if people=2", 0), 0);
        due("hour", heldThen(three, "hold 1 if hour=77", 77), 0);
        due("without things", heldThen("court 1 1", "hold 1", 0), -1);
    }

    private static void sumIs(String sum, String what) {
        due(sum + " is " + what,
                heldThen("court 1 99;thing 1", "hold 1 if " + sum + "=" + what, 0), 0);
    }

    private static void sumsOfRules() {
        sumIs("2+3*4-10/4%2", "14");
        sumIs("10-3-2", "5");
        sumIs("100/10/5", "2");
        sumIs("100%30*2", "20");
        sumIs("5/0+5%0+1", "1");
        sumIs("7/2", "3");
        sumIs("99999*99999-99998*99999", "99999");
        sumIs("99999*99999*99999*99999%1000", "921");
        due("goes round below 0",
                heldThen("court 1 99;thing 1", "hold 99999*99999*99999*99999*2", 0), -1);
        due("below 0 is cut towards 0", heldThen("court 1 99;thing 1",
                "hold 1 if 99999*99999*99999*99999*2/10000/10000/10000/10000=0-292", 0), 0);
        // 2 * 99999^4 goes round to -2922184690805867774
        due("its rest has its sign", heldThen("court 1 99;thing 1",
                "hold 1 if 99999*99999*99999*99999*2%1000=0-774", 0), 0);
        due("below 0 is not above 0", heldThen("court 1 99;thing 1", "hold 1-2", 0), -1);
        due("the greatest in 64 bits", heldThen("court 1 99;thing 0;thing 1",
                "hold rank*99999*99999+1", 0), 1);
    }

    private static void holds(String test, boolean wanted) {
        due(test, heldThen("court 1 99;thing 1", "hold 1 if " + test, 0), wanted ? 0 : -1);
    }

    private static void testsOfRules() {
        holds("1<2", true);
        holds("2<2", false);
        holds("2<=2", true);
        holds("3<=2", false);
        holds("2=2", true);
        holds("2=3", false);
        holds("2>=2", true);
        holds("1>=2", false);
        holds("3>2", true);
        holds("2>2", false);
        holds("1=1 or 1=1 and 1=2", true);
        holds("[1=1 or 1=1] and 1=2", false);
        holds("1=2 and 1=2 or 1=1", true);
        holds("not 1=2 and 1=2", false);
        holds("not [1=2 and 1=2]", true);
        holds("not not 1=1", true);
        holds("not not not 1=1", false);
        holds("1=2 or 1=2 or 1=1", true);
        holds("1=1 and 1=1 and 1=2", false);
        String two = "court 1 99;thing 5;thing 3";
        due("the first clause that holds", heldThen(two, "hold 9 if rank=3;hold 8;hold 99", 0), 1);
        due("none that holds is 0", heldThen(two, "hold 9 if rank=4", 0), -1);
        due("a sum of 0 ends it too", heldThen(two, "hold 0 if rank=5;hold 1", 0), 1);
    }

    private static void promise11() {
        SpoonCourt x = Checks.at(COURT);
        due("deed", x.deed(0, 99), 107);
        due("deed 1", x.deed(2, 1), 1);
        due("deed 0", x.deed(0, 0), -1);
        due("deed 100", x.deed(0, 100), -1);
        due("deed of 3", x.deed(3, 1), -1);
        due("deed of -1", x.deed(-1, 1), -1);
        due("acts", x.count(12), 2);
        for (int i = 0; i < 10; i++) {
            x.deed(0, 99);
        }
        due("999 at most", x.person(0, 0), 999);
        due("a deed at 999", x.deed(0, 5), 999);
        due("is an act", x.count(12), 13);
        due("without a court", new SpoonCourt().deed(0, 1), -1);
        SpoonCourt served = Checks.at("court 1 99;person 50 9");
        for (int i = 0; i < 10; i++) {
            served.deed(0, 99);
        }
        due("served beyond 999", served.hour(), 1);
    }

    private static void promise12() {
        SpoonCourt x = Checks.at(COURT);
        due("slight", x.slight(0, 3), 5);
        due("slight all", x.slight(0, 5), 0);
        due("slight more", x.slight(0, 1), -1);
        due("slight 0", x.slight(1, 0), -1);
        due("slight 100", x.slight(1, 100), -1);
        due("slight below 0", x.slight(1, -1), -1);
        due("slight of 3", x.slight(3, 1), -1);
        due("acts", x.count(12), 2);
        x.deed(1, 99);
        due("slight 99", x.slight(1, 99), 4);
    }

    private static void promise13() {
        SpoonCourt x = Checks.at(COURT);
        due("nothing in place of nothing", x.tray(-1), -2);
        due("tray(3)", x.tray(3), -2);
        due("tray(-2)", x.tray(-2), -2);
        due("tray(2)", x.tray(2), -1);
        due("the same", x.tray(2), -2);
        due("another", x.tray(0), 2);
        due("nothing", x.tray(-1), 0);
        due("acts", x.count(12), 3);
        due("without a court", new SpoonCourt().tray(0), -2);
    }

    private static void promise14() {
        SpoonCourt x = Checks.at(COURT);
        due("gloves(9)", x.gloves(9), 0);
        due("gloves(1)", x.gloves(1), 9);
        due("gloves(1) again", x.gloves(1), 1);
        due("gloves(0)", x.gloves(0), -1);
        due("gloves(10)", x.gloves(10), -1);
        due("gloves(-1)", x.gloves(-1), -1);
        due("on", x.count(9), 1);
        due("acts", x.count(12), 3);
        due("without a court", new SpoonCourt().gloves(1), -1);
    }

    private static void promise15() {
        SpoonCourt x = Checks.at(COURT);
        x.deed(0, 50);
        x.hour();
        x.deed(0, 50);
        x.hour();
        due("titles", x.person(0, 2), 3);
        due("no such title", x.strip(0, 2), -1);
        due("no such thing", x.strip(0, 3), -1);
        due("no such thing below", x.strip(0, -1), -1);
        due("no such person", x.strip(3, 0), -1);
        due("strip", x.strip(0, 0), 2);
        due("not twice", x.strip(0, 0), -1);
        due("strip the other", x.strip(0, 1), 0);
        due("titles by it", x.thing(0, 2), 0);
        due("acts", x.count(12), 6);
    }

    private static void promise16() {
        SpoonCourt x = Checks.at(COURT);
        due("none", x.undo(), -2);
        x.deed(0, 50);
        x.tray(2);
        x.hour();
        x.strip(0, 2);
        x.slight(1, 1);
        x.gloves(4);
        due("gloves undone", x.undo(), 5);
        due("no gloves", x.count(9), 0);
        due("slight undone", x.undo(), 4);
        due("thanks", x.person(1, 0), 7);
        due("strip undone", x.undo(), 3);
        due("title", x.person(0, 2), 4);
        x.force(-1);
        x.seed(7);
        x.note(0, 0);
        due("hour undone", x.undo(), 2);
        due("hour", x.count(6), 0);
        due("tray", x.count(8), 2);
        due("last", x.count(7), -1);
        due("times", x.thing(2, 1), 0);
        due("titles", x.person(0, 2), 0);
        due("thanks before", x.person(0, 0), 58);
        due("x is no act", x.count(13), 7);
        due("a note is no act", x.count(11), 1);
        due("tray undone", x.undo(), 1);
        due("deed undone", x.undo(), 0);
        due("thanks at first", x.person(0, 0), 8);
        due("none more", x.undo(), -2);
        for (int i = 1; i <= 25; i++) {
            x.deed(2, i);
        }
        for (int i = 19; i >= 0; i--) {
            due("undo to " + i, x.undo(), i);
        }
        due("the 21st is kept", x.undo(), -2);
        due("what the first five did", x.person(2, 0), 15);
    }
}
