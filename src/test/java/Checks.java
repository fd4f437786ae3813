/** What the tests share: telling texts, and counting answers that are not the ones due. */
final class Checks {
    private static int wrong = 0;
    private static int asked = 0;

    private Checks() {
    }

    static void due(String call, long got, long want) {
        asked++;
        if (got != want) {
            wrong++;
            System.out.println(call + " answered " + got + ", due is " + want);
        }
    }

    static void finish(String name) {
        System.out.println(name + ": " + asked + " answers, " + wrong + " not as due");
        if (wrong != 0) {
            System.exit(1);
        }
    }

    /** The tape holds just this text then. */
    static void tell(SpoonCourt x, String text) {
        x.end(0);
        byte[] bytes = text.getBytes(java.nio.charset.StandardCharsets.ISO_8859_1);
        for (int i = 0; i < bytes.length; i += 20) {
            int[] five = new int[5];
            for (int k = 0; k < 20; k++) {
                int b = i + k < bytes.length ? bytes[i + k] & 255 : 0;
                five[k / 4] = five[k / 4] << 8 | b;
            }
            x.feed(five[0], five[1], five[2], five[3], five[4]);
        }
        x.end(bytes.length);
    }

    static int court(SpoonCourt x, String text) {
        tell(x, text);
        return x.court();
    }

    static int rule(SpoonCourt x, String text) {
        tell(x, text);
        return x.rule();
    }

    /** What a call answers for a FAULT of a kind at a place. */
    static int fault(int place, int kind) {
        return -2 - (1 + 8 * place + kind);
    }

    static SpoonCourt at(String court) {
        SpoonCourt x = new SpoonCourt();
        if (court(x, court) < 0) {
            wrong++;
            System.out.println("a court of the test itself is refused: " + court);
        }
        return x;
    }

    static SpoonCourt at(String court, String rule) {
        SpoonCourt x = at(court);
        if (rule(x, rule) != 0) {
            wrong++;
            System.out.println("a rule of the test itself is refused: " + rule);
        }
        x.force(0);
        return x;
    }

    static void hours(SpoonCourt x, int n) {
        for (int i = 0; i < n; i++) {
            x.hour();
        }
    }

    static String times(String text, int n) {
        return text.repeat(n);
    }
}
