/** Promises 1 to 6: the new object, the tape, courts and rules as texts, the rule in force. */
public final class TextsTest {
    public static void main(String[] args) {
        promise1();
        promise2();
        promise3();
        promise4();
        promise4Faults();
        promise5();
        promise5Faults();
        promise5Limits();
        promise6();
        Checks.finish("TextsTest");
    }

    private static void due(String call, long got, long want) {
        Checks.due(call, got, want);
    }

    private static void promise1() {
        SpoonCourt x = new SpoonCourt();
        int[] zero = {0, 1, 2, 3, 4, 6, 9, 10, 11, 12, 13, 14};
        for (int what : zero) {
            due("new: count " + what, x.count(what), 0);
        }
        due("new: force", x.count(5), -1);
        due("new: NONE", SpoonCourt.NONE, -1);
    }

    private static void promise2() {
        SpoonCourt x = new SpoonCourt();
        for (int i = 1; i <= 20; i++) {
            due("feed " + i, x.feed(-1, 0, 1, Integer.MIN_VALUE, Integer.MAX_VALUE), 20 * i);
        }
        due("feed beyond", x.feed(0, 0, 0, 0, 0), -1);
        due("tape stays", x.count(14), 400);
        x.end(381);
        due("feed beyond by one", x.feed(0, 0, 0, 0, 0), -1);
        x.end(380);
        due("feed just so", x.feed(0, 0, 0, 0, 0), 400);
        SpoonCourt y = new SpoonCourt();
        // "cour" "t 12" " 99;" "hold" ...: the highest byte comes first
        y.feed(0x636f7572, 0x74203132, 0x2039393b, 0x7468696e, 0x67203230);
        due("bytes in order", y.court(), 1);
        due("day", y.count(0), 12);
        due("owed", y.count(1), 99);
        due("rank", y.thing(0, 0), 20);
    }

    private static void promise3() {
        SpoonCourt x = new SpoonCourt();
        x.feed(0, 0, 0, 0, 0);
        due("end(21)", x.end(21), -1);
        due("end(-1)", x.end(-1), -1);
        due("end(min)", x.end(Integer.MIN_VALUE), -1);
        due("end(max)", x.end(Integer.MAX_VALUE), -1);
        due("stays", x.count(14), 20);
        due("end(20)", x.end(20), 20);
        due("end(7)", x.end(7), 7);
        due("end(8)", x.end(8), -1);
        due("seven", x.count(14), 7);
        due("end(0)", x.end(0), 0);
    }

    private static void promise4() {
        SpoonCourt x = new SpoonCourt();
        due("all kinds", Checks.court(x, "  court12 99 ;thing0;thing 20;holds 11 1;holds11 0 ; "
                + "person 99 9;quarrel 1 0;quarrel 0 1;quarrel 1 0  "), 2);
        due("tape is empty", x.count(14), 0);
        due("last told hour", x.usual(11), 0);
        due("quarrels", x.thing(0, 3), 2);
        due("quarrels back", x.thing(1, 3), 1);
        x.note(0, 0);
        x.seed(5);
        x.hour();
        x.gloves(3);
        Checks.rule(x, "hold 1");
        x.force(0);
        due("a fault", Checks.court(x, "court 1"), Checks.fault(7, 0));
        due("all stays: day", x.count(0), 12);
        due("all stays: hour", x.count(6), 1);
        due("all stays: notes", x.count(11), 1);
        due("tape is empty behind a fault", x.count(14), 0);
        due("another court", Checks.court(x, "court 1 1"), 0);
        due("no things", x.count(2), 0);
        due("no people", x.count(3), 0);
        due("hour 0", x.count(6), 0);
        due("no gloves", x.count(9), 0);
        due("no notes", x.count(11), 0);
        due("no undo", x.count(12), 0);
        due("undo", x.undo(), -2);
        due("x stays", x.count(13), 5);
        due("force stays", x.count(5), 0);
        due("digits", Checks.court(x, "court 00012 00099"), 0);
        due("six of each", Checks.court(x, "court 1 1" + Checks.times(";thing 1", 6)
                + Checks.times(";person 0 0", 6)), 6);
        String full = "court 1 1" + Checks.times(";thing 1", 6);
        due("400 bytes", Checks.court(x, full + Checks.times(" ", 400 - full.length())), 6);
        due("400 bytes and a digit last", Checks.court(x, full + Checks.times(" ", 392 - full.length())
                + ";person0"), Checks.fault(400, 0));
        due("400 bytes and a word last", Checks.court(x, full + Checks.times(" ", 394 - full.length())
                + ";thing"), Checks.fault(395, 4));
        due("forty clauses", Checks.court(x, "court 1 1" + Checks.times(";thing 1", 2)
                + Checks.times(";holds0 0", 37)), 2);
    }

    private static void courtFault(String text, int place, int kind) {
        due("court '" + text + "'", Checks.court(new SpoonCourt(), text), Checks.fault(place, kind));
    }

    private static void promise4Faults() {
        courtFault("", 0, 0);
        courtFault("   ", 3, 0);
        courtFault("court 1 1;", 10, 0);
        courtFault("court 1 1;;", 10, 0);
        courtFault("court 1 1 1", 10, 0);
        courtFault("court 1  ", 9, 0);
        courtFault("court 1 x", 8, 0);
        courtFault("Court 1 1", 0, 0);
        courtFault("courtx 1 1", 0, 0);
        courtFault("  cour 1 1", 2, 0);
        courtFault("court\t1 1", 5, 0);
        courtFault("court -1 1", 6, 0);
        courtFault("court 000001 1", 6, 1);
        courtFault("court 123456789012345678901234567890 1", 6, 1);
        courtFault("court 4294967297 1", 6, 1);
        courtFault("court 0 1", 6, 1);
        courtFault("court 13 1", 6, 1);
        courtFault("court 1 0", 8, 1);
        courtFault("court 1 100", 8, 1);
        courtFault("  person 1 1", 2, 4);
        courtFault("thing 1;court 1 1", 0, 4);
        courtFault("hold 1", 0, 0);
        courtFault("court 1 1; court 1 1", 11, 4);
        courtFault("court 1 1;thing 21", 16, 1);
        courtFault("court 1 1;thing", 15, 0);
        courtFault("court 2 1;thing 1;holds 2 0", 24, 1);
        courtFault("court 2 1;thing 1;holds 1 1", 26, 1);
        courtFault("court 2 1;holds 1 0", 18, 1);
        courtFault("court 2 1;person 100 1", 17, 1);
        courtFault("court 2 1;person 99 10", 20, 1);
        courtFault("court 2 1;quarrel 0 1", 18, 1);
        courtFault("court 2 1;thing 1;quarrel 0 1", 28, 1);
        courtFault("court 2 1;thing 1;quarrel 0  0", 29, 1);
        courtFault("court 2 1;thing 1;quarrel 0", 27, 0);
        courtFault("court 1 1" + Checks.times(";thing 1", 6) + "; thing 99", 59, 4);
        courtFault("court 1 1" + Checks.times(";thing 1", 6) + "; thin 99", 59, 0);
        courtFault("court 1 1" + Checks.times(";person 1 1", 6) + ";person", 76, 4);
        courtFault("court 1 1;thing 1" + Checks.times(";holds0 0", 38) + ";holds0 0", 360, 4);
        courtFault("court 1 1;thing 1" + Checks.times(";holds0 0", 38) + ";hold 0 0", 360, 0);
        courtFault("court 1 1;thing 1" + Checks.times(";holds0 0", 38) + ";", 360, 0);
        courtFault("court 1 1" + (char) 233, 9, 0);
        courtFault("court 1 1" + (char) 0, 9, 0);
    }

    private static void promise5() {
        SpoonCourt x = new SpoonCourt();
        String[] good = {
            "hold 1", " hold1if1=1 ", "hold 1 if not not [thing < 2 or rank>=3 and clock <=4]",
            "hold 99999*9-1%2/thing+usual ; hold last+times+titles",
            "hold due+knights+most+people+hour if [[1=1]] and not [1>2 or 3 < 4]",
            "hold 3-2-1;hold 1 if rank=1 or rank=2 or rank=3 and not clock=0",
        };
        for (int i = 0; i < good.length; i++) {
            due("rule '" + good[i] + "'", Checks.rule(x, good[i]), i);
            due("tape is empty", x.count(14), 0);
            due("rules", x.count(4), i + 1);
        }
        Checks.tell(x, "hold 1");
        due("a seventh", x.rule(), -1);
        due("the tape stays", x.count(14), 6);
        Checks.tell(x, "nonsense");
        due("a seventh with a fault", x.rule(), -1);
        due("rules", x.count(4), 6);
    }

    private static void ruleFault(String text, int place, int kind) {
        SpoonCourt x = new SpoonCourt();
        due("rule '" + text + "'", Checks.rule(x, text), Checks.fault(place, kind));
        due("tape is empty", x.count(14), 0);
        due("no rule", x.count(4), 0);
    }

    private static void promise5Faults() {
        ruleFault("", 0, 0);
        ruleFault("hold ", 5, 0);
        ruleFault("hold 1;", 7, 0);
        ruleFault("hold 1 2", 7, 0);
        ruleFault("hold 1 and 1=1", 7, 0);
        ruleFault("hold 1 <2", 7, 0);
        ruleFault("hold hold", 5, 0);
        ruleFault("hold rankif 1=1", 5, 0);
        ruleFault("hold 3rank", 6, 0);
        ruleFault("hold 1 iff 1=1", 7, 0);
        ruleFault("hold 1 if 1", 11, 0);
        ruleFault("hold 1 if 1 < =2", 14, 0);
        ruleFault("hold 1 if 1=<2", 12, 0);
        ruleFault("hold 1 if 1=>2", 12, 0);
        ruleFault("hold 1 if 1<2<3", 13, 0);
        ruleFault("hold 1 if [1<2", 14, 0);
        ruleFault("hold 1 if [1<2;hold 1", 14, 0);
        ruleFault("hold 1 if 1<2]", 13, 0);
        ruleFault("hold 1 if [1]", 12, 0);
        ruleFault("hold 1 if []", 11, 0);
        ruleFault("hold [1]", 5, 0);
        ruleFault("hold 1 if 1+[2]=3", 12, 0);
        ruleFault("hold 1 if 1+not=3", 12, 0);
        ruleFault("hold 1 if not", 13, 0);
        ruleFault("hold 1 if 1=1 and", 17, 0);
        ruleFault("hold 1 if 1=1 or or", 17, 0);
        ruleFault("hold 1 if 1=1 not 1=1", 14, 0);
        ruleFault("hold -1", 5, 0);
        ruleFault("hold 1+", 7, 0);
        ruleFault("hold 1++1", 7, 0);
        ruleFault("hold 123456", 5, 1);
        ruleFault("hold 1 if rank<000001", 15, 1);
        ruleFault("hold 1 if RANK<1", 10, 0);
        ruleFault("hold 1;court 1 1", 7, 0);
    }

    private static void promise5Limits() {
        SpoonCourt x = new SpoonCourt();
        due("ten deep", Checks.rule(x, "hold 1 if " + Checks.times("[", 10) + "1=1"
                + Checks.times("]", 10)), 0);
        due("ten deep twice", Checks.rule(x, "hold 1 if " + Checks.times("not[", 5) + "1=1"
                + Checks.times("]", 5) + " and " + Checks.times("not ", 10) + "1=1"), 1);
        ruleFault("hold 1 if " + Checks.times("[", 11) + "1=1", 20, 2);
        ruleFault("hold 1 if " + Checks.times("not ", 11) + "1=1", 50, 2);
        ruleFault("hold 1 if " + Checks.times("not[", 5) + " not 1=1", 31, 2);
        ruleFault("hold 1 if " + Checks.times("not[", 5) + " [1=1", 31, 2);
        String sixty = "hold 1" + Checks.times("+1", 59);
        due("sixty values", Checks.rule(x, sixty), 2);
        ruleFault(sixty + "+1", 125, 3);
        ruleFault(sixty + "+x", 125, 0);
        ruleFault(sixty + "+", 125, 0);
        ruleFault(sixty + "+123456", 125, 1);
        ruleFault(sixty + ";hold rank", 130, 3);
        String twenty = "hold 1" + Checks.times("+1", 56) + " if ";
        due("sixty with a fact", Checks.rule(x, twenty + "1=1"), 3);
        ruleFault(twenty + "1=1 and 1=1", 130, 3);
        ruleFault("hold 1" + Checks.times("+1", 57) + " if 1=1", 126, 3);
        ruleFault("hold 1" + Checks.times("+1", 58) + " if 1 <= 1", 128, 3);
        String twelve = "hold 1" + Checks.times(";hold 1", 11);
        due("twelve clauses", Checks.rule(x, twelve), 4);
        ruleFault(twelve + "; hold 1", 85, 4);
        ruleFault(twelve + "; holds 1", 85, 0);
        ruleFault(twelve + ";", 84, 0);
        ruleFault("hold 1 if 1" + Checks.times(" ", 388) + "<", 400, 0);
        ruleFault("hold 1 if 1=1" + Checks.times(" ", 385) + "an", 398, 0);
        ruleFault("hold 1 if 1=1" + Checks.times(" ", 384) + "and", 400, 0);
    }

    private static void promise6() {
        SpoonCourt x = new SpoonCourt();
        due("force(-1)", x.force(-1), -1);
        due("force(0) without", x.force(0), -2);
        Checks.rule(x, "hold 1");
        Checks.rule(x, "hold 2");
        due("force(1)", x.force(1), -1);
        due("force(2)", x.force(2), -2);
        due("force(-2)", x.force(-2), -2);
        due("force(min)", x.force(Integer.MIN_VALUE), -2);
        due("force(max)", x.force(Integer.MAX_VALUE), -2);
        due("in force", x.count(5), 1);
        due("force(0)", x.force(0), 1);
        due("force(-1)", x.force(-1), 0);
        due("none in force", x.count(5), -1);
    }
}
