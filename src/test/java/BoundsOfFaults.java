/** Promises 4 and 5: the FAULTS of texts, kind by kind, with their places. */
final class BoundsOfFaults {
    private BoundsOfFaults() {
    }

    private static void says(String words) {
        BoundsTest.says(words);
    }

    private static void court(String text, int place, int kind) {
        SpoonCourt x = new SpoonCourt();
        Checks.due("court '" + text + "'", Checks.court(x, text), Checks.fault(place, kind));
    }

    private static void rule(String text, int place, int kind) {
        SpoonCourt x = new SpoonCourt();
        Checks.due("rule '" + text + "'", Checks.rule(x, text), Checks.fault(place, kind));
        Checks.due("rules", x.count(4), 0);
    }

    private static void isCourt(String text) {
        Checks.due("court '" + text + "' is one", Checks.court(new SpoonCourt(), text) >= 0 ? 1 : 0, 1);
    }

    private static void isRule(String text) {
        Checks.due("rule '" + text + "'", Checks.rule(new SpoonCourt(), text), 0);
    }

    static void promise04EndBehindTheLastByte() {
        says("0 a byte or WORD that can't stand there, or the end (behind the last byte)");
        court("", 0, 0);
        court("   ", 3, 0);
        court("court", 5, 0);
        court("court  ", 7, 0);
        court("court 1", 7, 0);
        court("court 1 1;", 10, 0);
        court("court 1 1;  ", 12, 0);
        court("court 1 1;thing", 15, 0);
        court("court 1 1;thing 1;holds", 23, 0);
        court("court 1 1;thing 1;holds 0", 25, 0);
        court("court 1 1;person", 16, 0);
        court("court 1 1;person 1", 18, 0);
        court("court 1 1;thing 1;quarrel", 25, 0);
        court("court 1 1;thing 1;quarrel 0", 27, 0);
        court("court 1 1" + " ".repeat(390) + ";", 400, 0);
    }

    static void promise04ByteThatCantStandThere() {
        says("0 a byte or WORD that can't stand there, or the end (behind the last byte)");
        court(";court 1 1", 0, 0);
        court("1", 0, 0);
        court("court;", 5, 0);
        court("court 1;1", 7, 0);
        court("court 1,1", 7, 0);
        court("court 1 -1", 8, 0);
        court("court 1 1 1", 10, 0);
        court("court 1 1 thing 1", 10, 0);
        court("court 1 1;;thing 1", 10, 0);
        court("court 1 1;thing a", 16, 0);
        court("court 1 1;thing 1 1", 18, 0);
        court("court 1 1;person 1 1x", 20, 0);
        court("court 1 1;person 1 1 1", 21, 0);
        for (int sign : new int[] {0, 9, 10, 13, 31, 33, 47, 58, 96, 123, 127, 128, 160, 255}) {
            court("court 1 1" + (char) sign, 9, 0);
            court("court" + (char) sign + "1 1", 5, 0);
            court((char) sign + "court 1 1", 0, 0);
        }
    }

    static void promise04WordThatCantStandThere() {
        says("WORDS (small letters, as far as these go on)");
        for (String word : new String[] {"hold", "Court", "COURT", "cour", "courts", "courta", "courtz",
            "dourt", "couru", "xcourt", "courtcourt", "if", "rank", "z", "a"}) {
            court(word + " 1 1", 0, 0);
        }
        for (String word : new String[] {"hold", "hole", "holdz", "holdss", "thin", "thinga", "thingz",
            "uhing", "thinh", "persons", "person" + "a", "qerson", "quarrell", "quarre", "ruarrel", "Thing"}) {
            court("court 1 1;thing 1; " + word + " 0 0", 19, 0);
        }
        court("court 1 1;thing{1", 15, 0);
        court("court 1 1;thing`1", 15, 0);
        court("court 1 1;tHing 1", 10, 0);
    }

    static void promise04NumberNotAsTold() {
        says("1 a NUMBER of more digits, or not as told");
        court("court  0 1", 7, 1);
        court("court 13 x", 6, 1);
        court("court 1  100;x", 9, 1);
        court("court 1 1;thing 21;thing x", 16, 1);
        court("court 1 1;thing 000020", 16, 1);
        court("court 1 1;thing " + "0".repeat(300), 16, 1);
        court("court 1 1;thing 4294967297", 16, 1);
        court("court 1 1;thing 18446744073709551617", 16, 1);
        court("court 1 1;person 100 10", 17, 1);
        court("court 1 1;thing 1;holds 1 1", 24, 1);
        court("court 1 1;thing 1;holds 0 65536", 26, 1);
    }

    static void promise04TooMany() {
        says("4 one CLAUSE too many, a second court, another CLAUSE ahead of it, a seventh THING, "
                + "a seventh PERSON (at its first byte)");
        String sixThings = "court 1 1" + ";thing 1".repeat(6);
        isCourt(sixThings);
        court(sixThings + ";thing 1", 58, 4);
        court(sixThings + ";  thing 21", 60, 4);
        court(sixThings + ";thing", 58, 4);
        String sixPeople = "court 1 1" + ";person 1 1".repeat(6);
        isCourt(sixPeople);
        court(sixPeople + ";person 1 1", 76, 4);
        court(sixPeople + "; person x", 77, 4);
        isCourt(sixThings + ";person 1 1".repeat(6) + ";holds 0 5");
    }

    static void promise04FirstAlongTheText() {
        says("FAULTS, the first along the text, 1 + 8 * its place and");
        court("court 1 100;thing 21;nonsense", 8, 1);
        court("court 1 1;thing 1;court 1 1;thing 21", 18, 4);
        court("court 1 1;person 1 1 ;person 1 100;court", 31, 1);
        court("court 0 0", 6, 1);
        court("court 1 1 thing 21", 10, 0);
    }

    static void promise04OfOnePlaceTheLeast() {
        says("Of one place the least.");
        String forty = "court 1 1;thing 1" + ";holds0 0".repeat(38);
        court(forty + ";", 360, 0);
        court(forty + ";x", 360, 0);
        court(forty + ";hold 0 0", 360, 0);
        court(forty + ";court 1 1", 360, 4);
        court("x;court 1 1", 0, 0);
        court("court 1 1" + ";thing 1".repeat(6) + ";thingx 1", 58, 0);
    }

    static void promise04BlanksAsOneLikes() {
        says("Blanks (32) stand between as one likes.");
        isCourt("court1 1");
        isCourt("court01 01;thing1;holds0 0;person1 1;thing2;quarrel0 1");
        isCourt("   court   1   1   ;   thing   1   ;   holds   0   0   ");
        isCourt(" ".repeat(391) + "court 1 1");
        court("cou rt 1 1", 0, 0);
        court("court 1 1;person 1 1 0", 21, 0);
    }

    static void promise05EndBehindTheLastByte() {
        says("0 a byte or WORD that can't stand there, or the end (behind the last byte)");
        rule("", 0, 0);
        rule(" ".repeat(400), 400, 0);
        rule("hold", 4, 0);
        rule("hold  ", 6, 0);
        rule("hold 1+", 7, 0);
        rule("hold 1 * ", 9, 0);
        rule("hold 1 if", 9, 0);
        rule("hold 1 if ", 10, 0);
        rule("hold 1 if 1", 11, 0);
        rule("hold 1 if 1 ", 12, 0);
        rule("hold 1 if 1<", 12, 0);
        rule("hold 1 if 1<=", 13, 0);
        rule("hold 1 if 1<1-", 14, 0);
        rule("hold 1 if not", 13, 0);
        rule("hold 1 if [", 11, 0);
        rule("hold 1 if [1=1", 14, 0);
        rule("hold 1 if [[1=1]", 16, 0);
        rule("hold 1 if 1=1 and", 17, 0);
        rule("hold 1 if 1=1 or ", 17, 0);
        rule("hold 1;", 7, 0);
        rule("hold 1 if 1=1 ; ", 16, 0);
    }

    static void promise05ByteThatCantStandThere() {
        says("0 a byte or WORD that can't stand there, or the end (behind the last byte)");
        rule("1", 0, 0);
        rule("rank", 0, 0);
        rule(";hold 1", 0, 0);
        rule("hold 1;2", 7, 0);
        rule("hold 1;rank", 7, 0);
        rule("hold 1;;hold 1", 7, 0);
        rule("hold ;", 5, 0);
        rule("hold -1", 5, 0);
        rule("hold +1", 5, 0);
        rule("hold 1 1", 7, 0);
        rule("hold 1 rank", 7, 0);
        rule("hold rank rank", 10, 0);
        rule("hold rank1", 9, 0);
        rule("hold 1=1", 6, 0);
        rule("hold [1]", 5, 0);
        rule("hold (1)", 5, 0);
        rule("hold 1 if 1 2", 12, 0);
        rule("hold 1 if 1 rank", 12, 0);
        rule("hold 1 if 1=1=1", 13, 0);
        rule("hold 1 if 1==1", 12, 0);
        rule("hold 1 if 1<>1", 12, 0);
        rule("hold 1 if 1!=1", 11, 0);
        rule("hold 1 if 1=1]", 13, 0);
        rule("hold 1 if [1=1]]", 15, 0);
        rule("hold 1 if []", 11, 0);
        rule("hold 1 if [1=1] = 1", 16, 0);
        rule("hold 1 if [1]=1", 12, 0);
        rule("hold 1 if 1=[1]", 12, 0);
        rule("hold 1 if [1=1 2", 15, 0);
        rule("hold 1 if 1=1 2", 14, 0);
        for (int sign : new int[] {0, 9, 10, 31, 33, 35, 44, 46, 58, 63, 64, 91, 93, 94, 96, 123, 128, 255}) {
            rule("hold 1" + (char) sign, 6, 0);
            rule("hold " + (char) sign, 5, 0);
        }
    }

    static void promise05WordThatCantStandThere() {
        says("WORDS (small letters, as far as these go on) of a THING");
        for (String word : new String[] {"holds", "hol", "gold", "hole", "holdz", "Hold", "court", "thing"}) {
            rule(word + " 1", 0, 0);
            rule("hold 1; " + word + " 1", 8, 0);
        }
        for (String word : new String[] {"hold", "if", "not", "and", "or", "things", "thin", "ranka", "rankz",
            "sank", "rant", "clocks", "usua", "Last", "time", "title", "duel", "knight", "mos", "persons",
            "hours", "serves", "thanks", "day", "owed", "x"}) {
            rule("hold " + word, 5, 0);
            rule("hold 1 if 1=" + word, 12, 0);
        }
        rule("hold 1 iff 1=1", 7, 0);
        rule("hold 1 i 1=1", 7, 0);
        rule("hold 1 and 1=1", 7, 0);
        rule("hold 1 not 1=1", 7, 0);
        rule("hold 1 if 1=1 if 1=1", 14, 0);
        rule("hold 1 if 1=1 andd 1=1", 14, 0);
        rule("hold 1 if 1=1 not 1=1", 14, 0);
        rule("hold 1 if nott 1=1", 10, 0);
        rule("hold 1 if and 1=1", 10, 0);
        rule("hold 1 if 1=1 or and 1=1", 17, 0);
        rule("hold rankif 1=1", 5, 0);
        rule("hold 1+not", 7, 0);
        rule("hold 1 if 1+not 1=1", 12, 0);
    }

    static void promise05AllWordsAndSigns() {
        says("SIGN one of < <= = >= >.");
        for (String word : "thing rank clock usual last times titles due knights most people hour".split(" ")) {
            isRule("hold " + word);
            isRule("hold 1 if " + word + "=1");
        }
        for (String sign : "< <= = >= >".split(" ")) {
            isRule("hold 1 if 1" + sign + "1");
            isRule("hold 1 if 1 " + sign + " 1");
        }
        rule("hold 1 if 1=<1", 12, 0);
        rule("hold 1 if 1=>1", 12, 0);
        rule("hold 1 if 1< =1", 13, 0);
        rule("hold 1 if 1> =1", 13, 0);
        rule("hold 1 if 1<<1", 12, 0);
        rule("hold 1 if 1>==1", 13, 0);
    }

    static void promise05NumberOfMoreDigits() {
        says("1 a NUMBER of more digits, or not as told");
        rule("hold 123456", 5, 1);
        rule("hold 1+  000000", 9, 1);
        rule("hold 1 if 1=1 or 1=999999", 19, 1);
        rule("hold 4294967296", 5, 1);
        rule("hold 1 if 100000", 10, 1);
    }

    static void promise05FirstAlongTheText() {
        says("FAULTS, the first along the text, 1 + 8 * its place and");
        rule("hold 123456 if x", 5, 1);
        rule("hold 1 if 1 123456", 12, 0);
        rule("hold 1 if [1=123456", 13, 1);
        rule("hold 1 if " + "[".repeat(10) + "x[", 20, 0);
        rule("hold 1" + "+1".repeat(60) + "+123456", 125, 3);
        rule("hold 1" + ";hold 1".repeat(12) + ";x", 84, 4);
    }

    static void promise05OfOnePlaceTheLeast() {
        says("Of one place the least.");
        String sixty = "hold 1" + "+1".repeat(59);
        rule(sixty + "+x", 125, 0);
        rule(sixty + "+", 125, 0);
        rule(sixty + "+123456", 125, 1);
        rule(sixty + "+12345", 125, 3);
        rule(sixty + "+if", 125, 0);
        String fact = "hold 1" + "+1".repeat(58) + " if 1";
        rule(fact + "=x", 127, 3);
        rule(fact + "+x", 128, 0);
        rule(fact + "x", 127, 0);
        String twelve = "hold 1" + ";hold 1".repeat(11);
        rule(twelve + ";", 84, 0);
        rule(twelve + ";x", 84, 0);
        rule(twelve + ";holds 1", 84, 0);
        rule(twelve + ";hold x", 84, 4);
        rule(twelve + ";" + " ".repeat(10) + "hold 123456", 94, 4);
    }

    static void promise05BlanksAsOneLikes() {
        says("Blanks (32) stand between as one likes.");
        isRule("hold1if1=1and1=1or1=1");
        isRule("hold1if not[1=1]or[1<=1]and not1=1");
        isRule("  hold  1  +  1  if  not  [  1  <=  1  ]  or  1  =  1  ;  hold  2  ");
        isRule(" ".repeat(394) + "hold 1");
        isRule("hold 1if rank=1");
        rule("ho ld 1", 0, 0);
        rule("hold ra nk", 5, 0);
        rule("holdrank", 0, 0);
        rule("hold 1 if notrank=1", 10, 0);
        rule("hold 1 if 1=1 or rank=1andrank=2", 23, 0);
        rule("hold1ifnot[1=1]", 5, 0);
    }
}
