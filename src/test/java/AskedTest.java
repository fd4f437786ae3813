/** Promises 17 to 32: what is asked, by which nothing changes. */
public final class AskedTest {
    private static final String COURT = "court 2 10;thing 5;thing 2;holds 0 0;holds 1 1;"
            + "person 8 1;person 4 3;person 0 0";

    public static void main(String[] args) {
        promise17();
        promise18();
        promise19();
        promise20();
        promise21();
        promise22();
        promise23();
        promise24();
        promise25();
        promise26();
        promise26WithoutRest();
        promise27();
        promise28();
        promise29();
        promise30();
        promise31();
        promise32();
        nothingChanges();
        sixOfEach();
        sixRules();
        Checks.finish("AskedTest");
    }

    private static void due(String call, long got, long want) {
        Checks.due(call, got, want);
    }

    /** A TITLE for somebody in a court where nobody serves and 99 is owed at most. */
    private static void give(SpoonCourt x, int person, int thing) {
        x.deed(person, 99);
        x.tray(thing);
        x.hour();
    }

    private static void promise17() {
        SpoonCourt x = Checks.at(COURT);
        due("now", x.ahead(77, 0, 0), 0);
        due("then", x.ahead(-5, 1, 0), 1);
        due("thanks now", x.ahead(0, 0, 2), 8);
        due("thanks then", x.ahead(1, 5, 2), 9);
        due("titles then", x.ahead(1, 2, 1), 2);
        due("titles at 100", x.ahead(0, 100, 1), 2);
        due("n 101", x.ahead(0, 101, 0), -2);
        due("n -1", x.ahead(0, -1, 0), -2);
        due("what 3", x.ahead(0, 0, 3), -2);
        due("what -1", x.ahead(0, 0, -1), -2);
        due("person 3", x.ahead(3, 0, 1), -2);
        due("person -1", x.ahead(-1, 0, 2), -2);
        due("without a court", new SpoonCourt().ahead(0, 0, 0), -2);
        x.tray(1);
        due("the tray", x.ahead(0, 0, 0), 1);
        x.gloves(2);
        due("gloves", x.ahead(0, 0, 0), -1);
        due("gloves then", x.ahead(0, 1, 0), -1);
        due("the tray is gone then", x.ahead(0, 2, 0), 0);
    }

    private static void promise18() {
        SpoonCourt x = Checks.at(COURT);
        due("hour", x.dubbed(1, 0), 1);
        due("thing", x.dubbed(1, 1), 1);
        due("never", x.dubbed(2, 0), -2);
        due("never a thing", x.dubbed(2, 1), -2);
        x.hour();
        due("the hour as a number", x.dubbed(1, 0), 1);
        x.gloves(1);
        due("by a hand", x.dubbed(1, 1), -1);
        due("what 2", x.dubbed(0, 2), -3);
        due("what -1", x.dubbed(0, -1), -3);
        due("person 3", x.dubbed(3, 0), -3);
        due("without a court", new SpoonCourt().dubbed(0, 0), -3);
        SpoonCourt slow = Checks.at("court 1 99;person 0 1;person 0 0");
        due("the 99th", slow.dubbed(0, 0), 98);
        slow.hour();
        slow.slight(0, 1);
        due("from 1 on", slow.dubbed(0, 0), 99);
        SpoonCourt edge = Checks.at("court 1 99;thing 1;person 99 0", "hold 1");
        due("this one", edge.dubbed(0, 0), 0);
    }

    private static void promise19() {
        SpoonCourt x = Checks.at(COURT);
        due("anyway", x.least(0, 1, 2), 0);
        due("one short", x.least(0, 0, 1), 1);
        due("who does not serve", x.least(2, 0, 1), 10);
        due("not in the first hour", x.least(2, 1, 60), -2);
        // a deed of 5 makes 9 behind hour 1, and hour 2 holds thing 0
        due("not too much", x.least(0, 0, 3), 1);
        due("served up", x.least(1, 0, 1), 3);
        due("n 0", x.least(0, 0, 0), -1);
        due("n 61", x.least(0, 0, 61), -1);
        due("thing 2", x.least(0, 2, 1), -1);
        due("thing -1", x.least(0, -1, 1), -1);
        due("person 3", x.least(3, 0, 1), -1);
        due("without a court", new SpoonCourt().least(0, 0, 1), -1);
        SpoonCourt late = Checks.at("court 2 10;thing 5;holds 1 0;person 0 1");
        due("dubbed in hour 9", late.least(0, 0, 10), 0);
        due("dubbed in hour 7", late.least(0, 0, 9), 2);
        due("dubbed in hour 1", late.least(0, 0, 2), 8);
        SpoonCourt much = Checks.at("court 1 99;thing 1;person 0 0", "hold 1 if most>199");
        due("200 is tried", much.least(0, 0, 1), 200);
        SpoonCourt more = Checks.at("court 1 99;thing 1;person 0 0", "hold 1 if most>200");
        due("201 is not", more.least(0, 0, 1), -2);
        SpoonCourt has = Checks.at("court 1 9;thing 1;person 0 0");
        give(has, 0, 0);
        due("who has it", has.least(0, 0, 1), 0);
    }

    private static void promise20() {
        SpoonCourt x = Checks.at("court 1 5;thing 3;thing 1;holds 0 0;person 4 1;person 0 2");
        due("fewest", x.spare(0, 6, 0), 3);
        due("hours 0, 2, 5", x.spare(0, 6, 1), 37);
        due("in one hour", x.spare(0, 1, 1), 1);
        due("never held", x.spare(1, 8, 0), 0);
        due("never held: the set", x.spare(1, 8, 1), 0);
        x.gloves(9);
        due("gloves that he has on don't count", x.spare(0, 6, 1), 37);
        x.undo();
        x.tray(1);
        due("the tray", x.spare(1, 6, 1), 1);
        due("in its place", x.spare(0, 6, 1), 36);
        due("n 0", x.spare(0, 0, 0), -1);
        due("n 9", x.spare(0, 9, 0), -1);
        due("thing 2", x.spare(2, 1, 0), -1);
        due("what 2", x.spare(0, 1, 2), -1);
        due("without a court", new SpoonCourt().spare(0, 1, 0), -1);
        SpoonCourt again = Checks.at("court 1 1;thing 1;person 0 1", "hold 1");
        again.hour();
        due("who has the title is dubbed too", again.spare(0, 2, 1), 3);
        SpoonCourt either = Checks.at("court 1 1;thing 1;thing 2;person 0 1",
                "hold 2-thing if times=0 and hour=0;hold 1+thing if last=1 or thing=1");
        due("held only where it was last", either.spare(0, 3, 1), 1);
    }

    private static void promise21() {
        SpoonCourt x = Checks.at("court 1 10;thing 5;thing 9;thing 9;holds 0 0;person 9 1;person 0 0");
        due("the least of several", x.lay(0, 1, 0), 1);
        due("how much", x.lay(0, 1, 1), 9);
        due("later too", x.lay(0, 11, 1), 14);
        due("nobody dubbed: none", x.lay(1, 60, 0), -1);
        due("nobody dubbed: 0", x.lay(1, 60, 1), 0);
        x.tray(2);
        due("in place of what lies", x.lay(0, 1, 0), 1);
        x.gloves(1);
        due("in gloves none", x.lay(0, 1, 0), -1);
        due("n 0", x.lay(0, 0, 0), -2);
        due("n 61", x.lay(0, 61, 0), -2);
        due("what 2", x.lay(0, 1, 2), -2);
        due("person 2", x.lay(2, 1, 0), -2);
        due("without a court", new SpoonCourt().lay(0, 1, 0), -2);
        SpoonCourt same = Checks.at("court 1 10;thing 5;holds 0 0;person 9 1");
        due("none ahead of a thing", same.lay(0, 1, 0), -1);
        due("as much", same.lay(0, 1, 1), 5);
        same.tray(0);
        due("none at all is as good", same.lay(0, 1, 0), -1);
    }

    private static void promise22() {
        SpoonCourt x = Checks.at("court 3 10;thing 5;thing 2;thing 1;holds 0 0;holds 1 1");
        due("thing 0", x.held(4, 0), 2);
        due("thing 1", x.held(4, 1), 1);
        due("thing 2", x.held(100, 2), 0);
        due("in none", x.held(1, 6), 6);
        due("in none of 100", x.held(100, 6), 4);
        Checks.hours(x, 1);
        due("from now on", x.held(1, 6), 5);
        due("what was held is not counted", x.held(3, 0), 1);
        due("thing 3", x.held(1, 3), -1);
        due("what 7", x.held(1, 7), -1);
        due("what -1", x.held(1, -1), -1);
        due("n 0", x.held(0, 0), -1);
        due("n 101", x.held(101, 6), -1);
        due("without a court", new SpoonCourt().held(1, 6), -1);
        due("without things", Checks.at("court 1 1").held(1, 6), 0);
    }

    private static void promise23() {
        SpoonCourt x = Checks.at("court 1 9;thing 4;thing 4;thing 5;person 0 0;person 0 0;"
                + "person 0 0;person 0 0");
        give(x, 1, 0);
        give(x, 2, 1);
        give(x, 3, 2);
        due("3 is first", x.place(3), 0);
        due("1 is second", x.place(1), 1);
        due("2 has as much", x.place(2), 2);
        due("0 has none", x.place(0), 3);
        give(x, 2, 0);
        due("all titles together", x.place(2), 0);
        due("person 4", x.place(4), -1);
        due("person -1", x.place(-1), -1);
        due("without a court", new SpoonCourt().place(0), -1);
    }

    private static void promise24() {
        SpoonCourt x = Checks.at("court 1 9;thing 1;thing 1;thing 1;thing 1;quarrel 1 0;quarrel 2 3;"
                + "person 0 0;person 0 0;person 0 0;person 0 0");
        due("nobody", x.stripped(0), 0);
        give(x, 0, 0);
        give(x, 1, 1);
        due("of several the least", x.stripped(1), 1);
        give(x, 2, 0);
        due("one against two", x.stripped(1), 2);
        give(x, 3, 2);
        due("2 alone is peace", x.stripped(1), 2);
        give(x, 3, 3);
        due("one has both", x.stripped(1), 10);
        due("how many", x.stripped(0), 2);
        due("what 2", x.stripped(2), -1);
        due("what -1", x.stripped(-1), -1);
        due("without a court", new SpoonCourt().stripped(0), -1);
        due("without people", Checks.at("court 1 1").stripped(1), 0);
    }

    private static void promise25() {
        SpoonCourt x = Checks.at("court 1 9;thing 5;thing 3;person 0 0;person 0 0;person 0 0;person 0 0");
        due("nothing by no rank", x.gold(9999, 0), 0);
        give(x, 0, 0);
        give(x, 1, 1);
        give(x, 2, 1);
        int[][] parts = {{0, 0, 0, 0, 0}, {10, 4, 3, 3, 0}, {9, 4, 3, 2, 0}, {1, 1, 0, 0, 0},
            {2, 1, 1, 0, 0}, {11, 5, 3, 3, 0}, {9999, 4545, 2727, 2727, 0}};
        for (int[] row : parts) {
            for (int p = 0; p < 4; p++) {
                due("gold " + row[0] + " of " + p, x.gold(row[0], p), row[p + 1]);
            }
        }
        due("gold -1", x.gold(-1, 0), -1);
        due("gold 10000", x.gold(10000, 0), -1);
        due("person 4", x.gold(1, 4), -1);
        due("person -1", x.gold(1, -1), -1);
        due("without a court", new SpoonCourt().gold(0, 0), -1);
    }

    private static SpoonCourt twoAlike(int rank, int owed) {
        return Checks.at("court 1 " + owed + ";thing " + rank + ";holds 0 0;person 0 0;person 0 0");
    }

    private static void promise26() {
        SpoonCourt gain = twoAlike(3, 10);
        due("one rest", gain.rests(0, 1, 1, 0), 1);
        due("ten", gain.rests(0, 1, 1, 1), 10);
        due("ten of the other", gain.rests(0, 1, 1, 2), 10);
        SpoonCourt even = twoAlike(4, 40);
        due("four rests", even.rests(1, 0, 20, 0), 4);
        due("the first", even.rests(1, 0, 20, 1), 0);
        due("the first of the other", even.rests(1, 0, 20, 2), 0);
        SpoonCourt vain = twoAlike(3, 41);
        due("in vain", vain.rests(0, 1, 1, 0), 1);
        due("in vain 0", vain.rests(0, 1, 1, 1), 0);
        SpoonCourt unlike = Checks.at("court 1 40;thing 9;holds 0 0;person 15 0;person 1 0");
        due("the one", unlike.rests(0, 1, 1, 1), 30);
        due("the other", unlike.rests(0, 1, 1, 2), 40);
        due("turned round", unlike.rests(1, 0, 1, 1), 40);
        due("alike", gain.rests(0, 0, 1, 0), -1);
        due("person 2", gain.rests(0, 2, 1, 0), -1);
        due("person -1", gain.rests(-1, 1, 1, 0), -1);
        due("n 0", gain.rests(0, 1, 0, 0), -1);
        due("n 21", gain.rests(0, 1, 21, 0), -1);
        due("what 3", gain.rests(0, 1, 1, 3), -1);
        due("what -1", gain.rests(0, 1, 1, -1), -1);
        due("without a court", new SpoonCourt().rests(0, 1, 1, 0), -1);
    }

    /** Each has the title that the other one wants, and the greater deed decides what is held. */
    private static void promise26WithoutRest() {
        SpoonCourt x = Checks.at("court 1 10;thing 20;thing 20;person 0 0;person 0 0",
                "hold 2-thing if most%20=0;hold 1+thing");
        give(x, 0, 1);
        give(x, 1, 0);
        x.deed(0, 10);
        x.deed(1, 10);
        due("no rest", x.rests(0, 1, 1, 0), 0);
        due("no first", x.rests(0, 1, 1, 1), -2);
        due("no first of the other", x.rests(0, 1, 1, 2), -2);
    }

    private static void promise27() {
        SpoonCourt x = Checks.at("court 3 10;thing 5;thing 2;holds 0 0;holds 1 1");
        due("a day", x.ring(1), 3);
        due("at once", x.ring(0), 0);
        Checks.hours(x, 2);
        due("the hour as a number", x.ring(0), 2);
        x.tray(1);
        due("behind the tray", x.ring(0), 3);
        due("a day then", x.ring(1), 3);
        String six = "court 1 99" + Checks.times(";thing 1", 6);
        String wild = "hold 1 if thing=hour*hour*hour/11%6";
        due("none", Checks.at(six, wild).ring(0), -2);
        due("none later", Checks.at(six, wild).ring(1), -2);
        SpoonCourt last = Checks.at(six, "hold 1 if hour>58;" + wild);
        due("the 60th of 60", last.ring(0), 59);
        due("60 from now", last.ring(1), 1);
        due("the 61st is not", Checks.at(six, "hold 1 if hour>59;" + wild).ring(0), -2);
        due("what 2", x.ring(2), -1);
        due("what -1", x.ring(-1), -1);
        due("without a court", new SpoonCourt().ring(0), -1);
        due("nothing is alike too", Checks.at("court 12 9").ring(1), 1);
    }

    private static void promise28() {
        SpoonCourt x = Checks.at(COURT);
        for (int i = 1; i <= 10; i++) {
            due("note " + i, x.note(60 - i, -1), i);
        }
        due("an eleventh", x.note(0, 0), -2);
        due("notes", x.count(11), 10);
        due("none", x.note(-1, 99), 0);
        due("no notes", x.count(11), 0);
        due("hour 61", x.note(61, 0), -2);
        due("hour -2", x.note(-2, 0), -2);
        due("thing 2", x.note(0, 2), -2);
        due("thing -2", x.note(0, -2), -2);
        due("hour 60", x.note(60, 1), 1);
        due("the same again", x.note(60, 1), 2);
        due("none without a court", new SpoonCourt().note(-1, 0), 0);
        due("one without a court", new SpoonCourt().note(0, -1), -2);
    }

    private static SpoonCourt withFour() {
        SpoonCourt x = Checks.at(COURT);
        Checks.rule(x, "hold thing+1");
        Checks.rule(x, "hold 2-thing");
        Checks.rule(x, "hold 1 if clock=thing");
        Checks.rule(x, "hold thing+1 if hour<3");
        return x;
    }

    private static void promise29() {
        SpoonCourt x = withFour();
        due("all", x.ruled(0), 5);
        due("none is first", x.ruled(1), -1);
        x.note(1, 1);
        due("but 1", x.ruled(0), 4);
        x.note(2, 1);
        due("0 and 3", x.ruled(0), 2);
        due("0 is first", x.ruled(1), 0);
        x.note(3, -1);
        due("3 alone", x.ruled(0), 1);
        due("3", x.ruled(1), 3);
        x.note(60, 0);
        due("no more", x.ruled(0), 0);
        due("no first", x.ruled(1), -2);
        due("what 2", x.ruled(2), -3);
        due("what -1", x.ruled(-1), -3);
        due("without a court", new SpoonCourt().ruled(0), -3);
        SpoonCourt y = Checks.at(COURT);
        y.tray(1);
        y.gloves(2);
        y.hour();
        y.note(0, 0);
        due("as the text told it", y.ruled(0), 1);
    }

    private static void promise30() {
        SpoonCourt x = withFour();
        // hour 0: 0 1 0 0 1; hour 1: 1 1 0 1 1; hour 3: 1 1 0 1 none; hour 4: 0 1 0 0 none
        due("the hour", x.look(0), 0);
        due("the most alike", x.look(1), 3);
        x.note(0, 1);
        // 0 and 3 are left: they part in hour 3
        due("hour 3", x.look(0), 3);
        due("one each", x.look(1), 1);
        x.note(1, 0);
        due("none is so", x.look(0), -2);
        due("none is so either", x.look(1), -2);
        due("what 2", x.look(2), -1);
        due("what -1", x.look(-1), -1);
        due("without a court", new SpoonCourt().look(0), -1);
        SpoonCourt alike = Checks.at(COURT);
        Checks.rule(alike, "hold 1 if usual=1");
        due("never parted: hour 0", alike.look(0), 0);
        due("never parted: two", alike.look(1), 2);
        Checks.rule(alike, "hold 1 if usual=1 and hour<60");
        due("parted in hour 60 alone", alike.look(0), 60);
        due("two against one", alike.look(1), 2);
    }

    private static void promise31() {
        SpoonCourt x = new SpoonCourt();
        due("0 at first", x.seed(2147483647), 0);
        due("what it was", x.seed(3), 2147483647);
        due("below 0", x.seed(-1), -1);
        due("far below 0", x.seed(Integer.MIN_VALUE), -1);
        due("it stays", x.count(13), 3);
        due("0", x.seed(0), 3);
    }

    private static void promise32() {
        SpoonCourt x = Checks.at(COURT);
        // p0 is dubbed in 1, 11; p1 in 1, 5, 9, all with thing 1
        due("without a draw below p", x.years(1, 12, 0, 0), 5);
        due("ranks", x.years(1, 12, 0, 1), 4);
        due("three times from now on", x.years(3, 12, 0, 0), 15);
        due("ranks three times", x.years(3, 12, 0, 1), 12);
        due("x as it was", x.count(13), 0);
        SpoonCourt drawn = Checks.at("court 1 1;thing 1;thing 10;person 0 1");
        int[] of = laid(0, 5, 100, 2);
        int dubbings = 0;
        int titles = 0;
        for (int thing : of) {
            dubbings += thing >= 0 ? 1 : 0;
            titles |= thing >= 0 ? 1 << thing : 0;
        }
        due("each hour a thing", drawn.years(1, 5, 100, 0), dubbings);
        due("ranks drawn", drawn.years(1, 5, 100, 1), (titles & 1) + 10 * (titles >> 1));
        drawn.seed(99);
        int some = 0;
        for (int thing : laid(99, 60, 30, 2)) {
            some += thing >= 0 ? 1 : 0;
        }
        due("some hours a thing", drawn.years(1, 60, 30, 0), some);
        SpoonCourt one = Checks.at("court 1 1;thing 7;person 0 1");
        due("the only thing", one.years(2, 1, 100, 1), 14);
        due("dubbed with it in both", one.years(2, 1, 100, 0), 2);
        SpoonCourt bare = Checks.at("court 1 1;person 0 1");
        due("without things by a hand", bare.years(10, 60, 100, 0), 0);
        due("m 0", x.years(0, 1, 0, 0), -1);
        due("m 11", x.years(11, 1, 0, 0), -1);
        due("n 0", x.years(1, 0, 0, 0), -1);
        due("n 61", x.years(1, 61, 0, 0), -1);
        due("p -1", x.years(1, 1, -1, 0), -1);
        due("p 101", x.years(1, 1, 101, 0), -1);
        due("what 2", x.years(1, 1, 0, 2), -1);
        due("what -1", x.years(1, 1, 0, -1), -1);
        due("without a court", new SpoonCourt().years(1, 1, 0, 0), -1);
    }

    /** What is laid in n hours from a seed on, told by long numbers. */
    private static int[] laid(long seed, int n, int p, int things) {
        int[] row = new int[n];
        long x = seed;
        for (int i = 0; i < n; i++) {
            x = (x * 1103515245L + 12345L) % 2147483648L;
            row[i] = -1;
            if (x / 65536 % 100 < p) {
                x = (x * 1103515245L + 12345L) % 2147483648L;
                row[i] = (int) (x / 65536 % things);
            }
        }
        return row;
    }

    /** Person k has the titles of things 0 to k, all ranks are 1, 2, .. 6. */
    private static void sixOfEach() {
        StringBuilder text = new StringBuilder("court 12 99");
        for (int t = 1; t <= 6; t++) {
            text.append(";thing ").append(t).append(";person 0 0");
        }
        SpoonCourt x = Checks.at(text + ";holds 11 5;quarrel 0 5;quarrel 4 5");
        for (int p = 0; p < 6; p++) {
            for (int t = 0; t <= p; t++) {
                give(x, p, t);
            }
        }
        // 21 hours have passed: it is 9 by the clock
        due("rank of all", x.person(5, 3), 21);
        due("who has the last", x.thing(5, 2), 1);
        due("who have the first", x.thing(0, 2), 6);
        due("knights", x.count(10), 63);
        due("first", x.place(5), 0);
        due("last", x.place(0), 5);
        due("the one with the sixth", x.stripped(1), 32);
        // ranks 1, 3, 6, 10, 15, 21: 56 in all
        due("gold of the last", x.gold(56, 5), 21);
        due("gold of the first", x.gold(57, 0), 1);
        due("gold left, to who lost most", x.gold(57, 5), 22);
        due("the sixth in hand", x.ahead(0, 2, 0), 5);
        due("the sixth in six hours", x.held(6, 5), 1);
        due("never held", x.held(6, 6), 31);
        due("the best for the first", x.lay(0, 1, 0), -1);
        x.deed(0, 99);
        due("the best for one who is due", x.lay(0, 1, 0), 5);
        due("how much", x.lay(0, 1, 1), 7);
        due("by a hand", x.dubbed(0, 1), -1);
        x.tray(5);
        due("the sixth thing", x.dubbed(0, 1), 5);
        due("sparing it", x.spare(5, 8, 1), 1);
        due("a deed for it", x.least(5, 4, 60), 0);
        due("rests", x.rests(5, 4, 20, 0), 1);
        due("years", x.years(10, 60, 0, 1), 620);
        due("dubbed in these", x.years(10, 60, 0, 0), 10);
    }

    private static void sixRules() {
        SpoonCourt x = Checks.at("court 1 99" + Checks.times(";thing 1", 6));
        for (int r = 0; r < 6; r++) {
            Checks.rule(x, "hold 1 if thing=" + r + " or hour=60 and " + r + "<3 and thing=5");
        }
        // none holds nothing; in hour 60 the first three hold what they do, as the least
        due("all seven", x.ruled(0), 7);
        due("all part at once", x.look(0), 0);
        due("one each", x.look(1), 1);
        x.note(60, 5);
        due("the last alone", x.ruled(1), 5);
        due("one", x.ruled(0), 1);
        x.note(-1, 0);
        x.note(0, -1);
        due("none alone", x.ruled(1), -1);
        due("just one", x.ruled(0), 1);
    }

    private static void nothingChanges() {
        SpoonCourt x = withFour();
        x.force(2);
        x.hour();
        x.tray(1);
        x.gloves(3);
        x.seed(17);
        String before = Checks.state(x);
        x.ahead(0, 100, 1);
        x.dubbed(0, 0);
        x.least(0, 0, 60);
        x.spare(1, 8, 0);
        x.lay(0, 60, 0);
        x.held(100, 0);
        x.place(0);
        x.stripped(0);
        x.gold(100, 0);
        x.rests(0, 1, 20, 0);
        x.ring(0);
        x.ruled(0);
        x.look(0);
        x.years(10, 60, 50, 0);
        due("nothing changes by asking", before.equals(Checks.state(x)) ? 1 : 0, 1);
    }
}
