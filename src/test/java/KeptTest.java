/** Promises 33 to 35: what is counted, and images gone back to. */
public final class KeptTest {
    private static final String COURT = "court 3 10;thing 5;thing 2;holds 0 0;holds 1 1;"
            + "person 8 1;person 4 3;person 0 0";

    public static void main(String[] args) {
        promise33();
        promise34();
        promise35();
        promise35WithoutCourt();
        promise35Undo();
        Checks.finish("KeptTest");
    }

    private static void due(String call, long got, long want) {
        Checks.due(call, got, want);
    }

    private static void promise33() {
        SpoonCourt x = Checks.at(COURT);
        Checks.rule(x, "hold 1");
        Checks.rule(x, "hold 2");
        x.force(1);
        x.hour();
        x.force(-1);
        x.hour();
        x.force(1);
        x.tray(1);
        x.gloves(4);
        x.note(3, -1);
        x.note(4, 0);
        x.seed(77);
        Checks.tell(x, "seven..");
        int[] wanted = {3, 10, 2, 3, 2, 1, 2, 1, 1, 4, 3, 2, 4, 77, 7};
        for (int what = 0; what < wanted.length; what++) {
            due("count " + what, x.count(what), wanted[what]);
        }
        due("count 15", x.count(15), -1);
        due("count -1", x.count(-1), -1);
        due("count max", x.count(Integer.MAX_VALUE), -1);
        SpoonCourt bare = new SpoonCourt();
        due("no court: held", bare.count(7), -1);
        due("no court: tray", bare.count(8), -1);
        due("no court: force", bare.count(5), -1);
    }

    private static void promise34() {
        SpoonCourt x = Checks.at(COURT);
        due("image at 0", x.image(3), 0);
        x.hour();
        due("image at 1", x.image(0), 1);
        due("back to the last one", x.back(3), 0);
        due("and to the first one", x.back(0), 1);
        due("image 4", x.image(4), -1);
        due("image -1", x.image(-1), -1);
        due("without a court", new SpoonCourt().image(0), 0);
        due("no act", x.count(12), 1);
    }

    private static void promise35() {
        SpoonCourt x = Checks.at(COURT);
        due("never made", x.back(0), -1);
        Checks.rule(x, "hold 1");
        Checks.hours(x, 2);
        x.force(0);
        x.tray(1);
        x.note(1, 1);
        x.seed(8);
        x.image(2);
        Checks.court(x, "court 5 50;thing 1");
        x.force(-1);
        x.note(-1, 0);
        x.seed(9);
        Checks.rule(x, "hold 2");
        Checks.tell(x, "abc");
        due("another one", x.back(1), -1);
        due("back(4)", x.back(4), -1);
        due("back(-1)", x.back(-1), -1);
        due("nothing happened", x.count(0), 5);
        due("back", x.back(2), 2);
        int[] wanted = {3, 10, 2, 3, 2, 0, 2, 1, 1, 0, 3, 1, 3, 8, 3};
        for (int what = 0; what < wanted.length; what++) {
            due("back: count " + what, x.count(what), wanted[what]);
        }
        due("titles", x.person(0, 2), 2);
        due("usual", x.usual(1), 1);
        due("times", x.thing(0, 1), 1);
        x.hour();
        due("the image is not touched", x.back(2), 2);
        due("hour", x.count(6), 2);
        x.hour();
        x.image(2);
        due("made anew", x.back(2), 3);
        due("the rule stays", x.force(1), 0);
    }

    private static void promise35WithoutCourt() {
        SpoonCourt x = new SpoonCourt();
        x.image(1);
        Checks.court(x, COURT);
        x.hour();
        due("back", x.back(1), 0);
        due("no court", x.hour(), -1);
        due("no day", x.usual(0), -2);
        due("no things", x.count(2), 0);
    }

    private static void promise35Undo() {
        SpoonCourt x = Checks.at(COURT);
        for (int i = 0; i < 27; i++) {
            x.deed(2, 1);
        }
        x.image(0);
        for (int i = 0; i < 5; i++) {
            x.undo();
        }
        for (int i = 0; i < 30; i++) {
            x.deed(1, 2);
        }
        x.back(0);
        due("acts", x.count(12), 20);
        for (int i = 19; i >= 0; i--) {
            due("undo", x.undo(), i);
            due("thanks", x.person(2, 0), 7 + i);
        }
        due("none", x.undo(), -2);
        due("the other one", x.person(1, 0), 4);
    }
}
