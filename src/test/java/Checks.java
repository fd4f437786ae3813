/** What the tests share: telling texts, and counting answers that are not the ones due. */
final class Checks {
    /** Numbers that no person, thing, hour, number of hours or what of the document is. */
    static final int[] OUTSIDE = {Integer.MIN_VALUE, Integer.MIN_VALUE + 1, -65536, -1000, -33, -3, -2,
        1000000, 65536, 2147483616, Integer.MAX_VALUE - 1, Integer.MAX_VALUE};

    private static int wrong = 0;
    private static int asked = 0;
    private static String heading = "";

    private Checks() {
    }

    /** What is told ahead of each wrong answer from now on. */
    static void head(String words) {
        heading = words + ": ";
    }

    static int askedSoFar() {
        return asked;
    }

    static void due(String call, long got, long want) {
        asked++;
        if (got != want) {
            wrong++;
            System.out.println(heading + call + " answered " + got + ", due is " + want);
        }
    }

    static void dueText(String call, String got, String want) {
        asked++;
        if (!got.equals(want)) {
            wrong++;
            System.out.println(heading + call + " answered " + got + ", due is " + want);
        }
    }

    /** All that can be seen of an object by calls that change nothing. */
    static String state(SpoonCourt x) {
        StringBuilder all = new StringBuilder();
        for (int what = 0; what <= 14; what++) {
            all.append(x.count(what)).append(' ');
        }
        for (int k = 0; k < 6; k++) {
            for (int what = 0; what <= 4; what++) {
                all.append(x.person(k, what)).append(' ').append(x.thing(k, what)).append(' ');
            }
        }
        for (int clock = 0; clock < 12; clock++) {
            all.append(x.usual(clock)).append(' ');
        }
        return all.append(x.ruled(0)).append(' ').append(x.ruled(1)).toString();
    }

    static void finish(String name) {
        System.out.println(name + ": " + asked + " answers, " + wrong + " not as due");
        if (wrong != 0) {
            System.exit(1);
        }
    }

    /** The tape holds just this text then. */
    static void tell(SpoonCourt x, String text) {
        x.end(0);
        byte[] bytes = text.getBytes(java.nio.charset.StandardCharsets.ISO_8859_1);
        for (int i = 0; i < bytes.length; i += 20) {
            int[] five = new int[5];
            for (int k = 0; k < 20; k++) {
                int b = i + k < bytes.length ? bytes[i + k] & 255 : 0;
                five[k / 4] = five[k / 4] << 8 | b;
            }
            x.feed(five[0], five[1], five[2], five[3], five[4]);
        }
        x.end(bytes.length);
    }

    static int court(SpoonCourt x, String text) {
        tell(x, text);
        return x.court();
    }

    static int rule(SpoonCourt x, String text) {
        tell(x, text);
        return x.rule();
    }

    /** What a call answers for a FAULT of a kind at a place. */
    static int fault(int place, int kind) {
        return -2 - (1 + 8 * place + kind);
    }

    static SpoonCourt at(String court) {
        SpoonCourt x = new SpoonCourt();
        if (court(x, court) < 0) {
            wrong++;
            System.out.println("a court of the test itself is refused: " + court);
        }
        return x;
    }

    static SpoonCourt at(String court, String rule) {
        SpoonCourt x = at(court);
        if (rule(x, rule) != 0) {
            wrong++;
            System.out.println("a rule of the test itself is refused: " + rule);
        }
        x.force(0);
        return x;
    }

    static void hours(SpoonCourt x, int n) {
        for (int i = 0; i < n; i++) {
            x.hour();
        }
    }

    static String times(String text, int n) {
        return text.repeat(n);
    }
}
