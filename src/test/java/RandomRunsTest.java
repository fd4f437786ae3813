import java.util.Random;

/** Random runs of calls, each answered by the program and by the plain model alike. */
public final class RandomRunsTest {
    private static final String[] NAMES = {"feed", "end", "court", "rule", "force", "thing", "usual",
        "person", "hour", "deed", "slight", "tray", "gloves", "strip", "undo", "ahead", "dubbed", "least",
        "spare", "lay", "held", "place", "stripped", "gold", "rests", "ring", "note", "ruled", "look",
        "seed", "years", "count", "image", "back"};
    private static final String[] WORDS = {"thing", "rank", "clock", "usual", "last", "times", "titles",
        "due", "knights", "most", "people", "hour"};
    private static final int[] FAR = {Integer.MIN_VALUE, Integer.MAX_VALUE, -1, -2, 100, 101, 400, 999,
        10000, 65536};

    private final Random random;
    private final SpoonCourt program = new SpoonCourt();
    private final PlainModel model = new PlainModel();
    private final StringBuilder story = new StringBuilder();

    private RandomRunsTest(long seed) {
        random = new Random(seed);
    }

    public static void main(String[] args) {
        int runs = args.length > 0 ? Integer.parseInt(args[0]) : 400;
        long first = args.length > 1 ? Long.parseLong(args[1]) : 1;
        for (long seed = first; seed < first + runs; seed++) {
            new RandomRunsTest(seed).run(seed);
        }
        Checks.finish("RandomRunsTest");
    }

    private void run(long seed) {
        for (int calls = 0; calls < 250; ) {
            int kind = random.nextInt(100);
            if (calls == 0 && random.nextInt(20) > 0 || kind < 2) {
                calls += text(courtText(), true);
            } else if (kind < 6) {
                calls += text(ruleText(), false);
            } else if (kind < 30) {
                call(seed, "hour");
                calls++;
            } else {
                call(seed, NAMES[2 + random.nextInt(NAMES.length - 2)]);
                calls++;
            }
        }
    }

    private int text(String text, boolean isCourt) {
        String told = random.nextInt(4) == 0 ? spoilt(text) : text;
        if (told.length() > 400) {
            told = told.substring(0, 400);
        }
        int calls = 2;
        same("end", program.end(0), model.end(0));
        for (int i = 0; i < told.length(); i += 20, calls++) {
            int[] five = new int[5];
            for (int k = 0; k < 20; k++) {
                five[k / 4] = five[k / 4] << 8 | (i + k < told.length() ? told.charAt(i + k) & 255 : 7);
            }
            same("feed", program.feed(five[0], five[1], five[2], five[3], five[4]), model.feed(five));
        }
        same("end", program.end(told.length()), model.end(told.length()));
        story.append('\n').append(isCourt ? "court " : "rule ").append('\'').append(told).append('\'');
        if (isCourt) {
            same("court of '" + told + "'", program.court(), model.court());
        } else {
            same("rule of '" + told + "'", program.rule(), model.rule());
        }
        return calls;
    }

    private String spoilt(String text) {
        StringBuilder s = new StringBuilder(text);
        for (int i = random.nextInt(3); i >= 0 && s.length() > 0; i--) {
            int at = random.nextInt(s.length());
            String signs = "<>=+-*/%[];0123456789 notandorifrankz" + (char) 233 + (char) 0;
            switch (random.nextInt(4)) {
                case 0: s.deleteCharAt(at); break;
                case 1: s.insert(at, signs.charAt(random.nextInt(signs.length()))); break;
                case 2: s.setCharAt(at, signs.charAt(random.nextInt(signs.length()))); break;
                default: s.setLength(at); break;
            }
        }
        return s.toString();
    }

    private String blank() {
        return random.nextInt(5) == 0 ? "  " : " ";
    }

    /** Mostly a few, often as many as there may be, and now and then none or one too many. */
    private int howMany() {
        int kind = random.nextInt(8);
        return kind == 0 ? random.nextInt(8) : kind < 3 ? 6 : 1 + random.nextInt(4);
    }

    private String courtText() {
        int day = 1 + random.nextInt(random.nextBoolean() ? 4 : 12);
        int owed = 1 + random.nextInt(random.nextBoolean() ? 20 : 99);
        StringBuilder s = new StringBuilder("court" + blank() + day + blank() + owed);
        int things = howMany();
        for (int i = 0; i < things; i++) {
            s.append(";thing").append(random.nextInt(21));
        }
        int people = howMany();
        for (int i = 0; i < people; i++) {
            s.append(";person").append(random.nextInt(random.nextBoolean() ? 20 : 100)).append(blank())
                    .append(random.nextInt(random.nextBoolean() ? 4 : 10));
        }
        for (int i = random.nextInt(random.nextInt(10) == 0 ? 35 : 10); i > 0 && things > 0; i--) {
            s.append(";holds").append(random.nextInt(day)).append(blank()).append(random.nextInt(things));
        }
        for (int i = random.nextInt(5); i > 0 && things > 1; i--) {
            int one = random.nextInt(things);
            int other = (one + 1 + random.nextInt(things - 1)) % things;
            s.append(";quarrel ").append(one).append(' ').append(other);
        }
        return s.toString();
    }

    private String ruleText() {
        StringBuilder s = new StringBuilder();
        int clauses = random.nextInt(12) == 0 ? 13 : 1 + random.nextInt(4);
        for (int i = 0; i < clauses; i++) {
            s.append(i > 0 ? ";" : "").append("hold ").append(sum());
            if (random.nextInt(3) > 0) {
                s.append(" if ").append(test(0));
            }
        }
        return s.toString();
    }

    private String sum() {
        StringBuilder s = new StringBuilder();
        for (int i = random.nextInt(random.nextInt(20) == 0 ? 30 : 4); i >= 0; i--) {
            s.append(random.nextBoolean() ? WORDS[random.nextInt(WORDS.length)]
                    : "" + random.nextInt(random.nextInt(10) == 0 ? 120000 : 12));
            s.append(i > 0 ? "" + "+-*/%".charAt(random.nextInt(5)) : "");
        }
        return s.toString();
    }

    private String test(int depth) {
        StringBuilder s = new StringBuilder();
        for (int i = random.nextInt(3); i >= 0; i--) {
            int kind = random.nextInt(depth > 14 ? 1 : 5);
            if (kind == 4) {
                s.append('[').append(test(depth + 1)).append(']');
            } else {
                s.append(kind == 3 ? "not " : "").append(sum());
                s.append(new String[] {"<", "<=", "=", ">=", ">"}[random.nextInt(5)]).append(sum());
            }
            s.append(i > 0 ? random.nextBoolean() ? " and " : " or " : "");
        }
        return s.toString();
    }

    private int number(int most) {
        int kind = random.nextInt(25);
        if (kind == 0) {
            return FAR[random.nextInt(FAR.length)];
        }
        return kind == 1 ? most + 1 : kind == 2 ? -1 : random.nextInt(most + 1);
    }

    private void call(long seed, String name) {
        int a = number(random.nextBoolean() ? 3 : 5);
        int b = number(random.nextBoolean() ? 3 : 5);
        int n = number(60);
        int w = number(1);
        int k = number(4);
        int got;
        int want;
        switch (name) {
            case "court": got = program.court(); want = model.court(); break;
            case "rule": got = program.rule(); want = model.rule(); break;
            case "force": got = program.force(a - 1); want = model.force(a - 1); break;
            case "thing": got = program.thing(a, b); want = model.thing(a, b); break;
            case "usual": got = program.usual(k); want = model.usual(k); break;
            case "person": got = program.person(a, k); want = model.person(a, k); break;
            case "hour": got = program.hour(); want = model.hour(); break;
            case "deed": got = program.deed(a, n); want = model.deed(a, n); break;
            case "slight": got = program.slight(a, n); want = model.slight(a, n); break;
            case "tray": got = program.tray(a - 1); want = model.tray(a - 1); break;
            case "gloves": got = program.gloves(k); want = model.gloves(k); break;
            case "strip": got = program.strip(a, b); want = model.strip(a, b); break;
            case "undo": got = program.undo(); want = model.undo(); break;
            case "ahead": got = program.ahead(a, n, b); want = model.ahead(a, n, b); break;
            case "dubbed": got = program.dubbed(a, w); want = model.dubbed(a, w); break;
            case "least":
                int few = random.nextInt(5) == 0 ? n : number(8);
                got = program.least(a, b, few);
                want = model.least(a, b, few);
                break;
            case "spare": got = program.spare(a, k, w); want = model.spare(a, k, w); break;
            case "lay": got = program.lay(a, n, w); want = model.lay(a, n, w); break;
            case "held": got = program.held(n, 2 * b); want = model.held(n, 2 * b); break;
            case "place": got = program.place(a); want = model.place(a); break;
            case "stripped": got = program.stripped(w); want = model.stripped(w); break;
            case "gold": got = program.gold(n, a); want = model.gold(n, a); break;
            case "rests": got = program.rests(a, b, n / 3, k - 1); want = model.rests(a, b, n / 3, k - 1); break;
            case "ring": got = program.ring(w); want = model.ring(w); break;
            case "note":
                int noted = random.nextInt(3) == 0 ? n : number(4) - 1;
                got = program.note(noted, a - 1);
                want = model.note(noted, a - 1);
                break;
            case "ruled": got = program.ruled(w); want = model.ruled(w); break;
            case "look": got = program.look(w); want = model.look(w); break;
            case "seed": int x = random.nextInt(); got = program.seed(x); want = model.seed(x); break;
            case "years": got = program.years(k, n / 2, 3 * n / 2, w); want = model.years(k, n / 2, 3 * n / 2, w); break;
            case "image": got = program.image(a); want = model.image(a); break;
            case "back": got = program.back(a); want = model.back(a); break;
            default: int c = number(14); got = program.count(c); want = model.count(c); break;
        }
        story.append('\n').append(name).append(' ').append(a).append(' ').append(b).append(' ').append(n)
                .append(' ').append(w).append(' ').append(k);
        same("run " + seed + ": " + name, got, want);
    }

    private void same(String call, int got, int want) {
        Checks.due(call, got, want);
        if (got != want) {
            System.out.println("the run was:" + story);
            System.exit(1);
        }
    }
}
