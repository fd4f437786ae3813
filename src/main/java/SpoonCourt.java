import java.util.Arrays;

/**
 * A court at which people are dubbed with what the king happens to hold.
 * The promises that the methods keep stand, by number, in the document DOC.md.
 */
public final class SpoonCourt {
    public static final int NONE = -1;

    private static final int REFUSED = -2;
    private static final int NOT_ASKED_SO = -3;
    private static final int TAPE_MOST = 400;
    private static final int DAY_MOST = 12;
    private static final int THINGS_MOST = 6;
    private static final int PEOPLE_MOST = 6;
    private static final int THANKS_MOST = 999;
    private static final int HOUR_MOST = 999;
    private static final int ACT_MOST = 99;
    private static final int GLOVES_MOST = 9;
    private static final int RULES_MOST = 6;
    private static final int UNDO_MOST = 20;
    private static final int NOTES_MOST = 10;
    private static final int LAST_NOTED_HOUR = 60;
    private static final int IMAGES_MOST = 4;

    private final Tape tape = new Tape();
    private final Realm draft = new Realm();
    private final CourtReader courtReader = new CourtReader(tape, draft);
    private final RuleReader ruleReader = new RuleReader(tape);
    private final Rule[] rules = new Rule[RULES_MOST];
    private final Clockwork clockwork = new Clockwork(rules);
    private final Whole now = new Whole();
    private final Oracle oracle = new Oracle(now, clockwork);
    private final Inquest inquest = new Inquest(now, clockwork);
    private final Whole[] images = new Whole[IMAGES_MOST];
    private int ruleCount;

    public SpoonCourt() {
    }

    public int feed(int a, int b, int c, int d, int e) {
        if (tape.size + 20 > TAPE_MOST) {
            return NONE;
        }
        tape.append(a);
        tape.append(b);
        tape.append(c);
        tape.append(d);
        tape.append(e);
        return tape.size;
    }

    public int end(int n) {
        if (n < 0 || n > tape.size) {
            return NONE;
        }
        tape.size = n;
        return n;
    }

    public int court() {
        int fault = courtReader.read();
        tape.size = 0;
        if (fault != 0) {
            return REFUSED - fault;
        }
        now.realm.copyFrom(draft);
        now.life.begin(draft);
        now.notes = 0;
        now.pastSize = 0;
        return now.realm.things;
    }

    public int rule() {
        if (ruleCount >= RULES_MOST) {
            return NONE;
        }
        int fault = ruleReader.read();
        tape.size = 0;
        if (fault != 0) {
            return REFUSED - fault;
        }
        rules[ruleCount] = ruleReader.made();
        ruleCount++;
        return ruleCount - 1;
    }

    public int force(int rule) {
        if (rule < NONE || rule >= ruleCount) {
            return REFUSED;
        }
        int before = now.force;
        now.force = rule;
        return before;
    }

    public int thing(int thing, int what) {
        if (!now.realm.hasThing(thing)) {
            return NONE;
        }
        switch (what) {
            case 0: return now.realm.rank[thing];
            case 1: return now.life.times[thing];
            case 2: return now.life.bearers(thing);
            case 3: return now.realm.quarrels[thing];
            default: return NONE;
        }
    }

    public int usual(int clock) {
        if (clock < 0 || clock >= now.realm.day) {
            return REFUSED;
        }
        return now.realm.inHand[clock];
    }

    public int person(int person, int what) {
        if (!now.realm.hasPerson(person)) {
            return NONE;
        }
        switch (what) {
            case 0: return now.life.thanks[person];
            case 1: return now.realm.serves[person];
            case 2: return now.life.titles[person];
            case 3: return now.realm.rankOf(now.life.titles[person]);
            case 4: return now.life.byHand[person];
            default: return NONE;
        }
    }

    public int hour() {
        if (!now.realm.told || now.life.hour >= HOUR_MOST) {
            return NONE;
        }
        now.remember();
        return clockwork.pass(now.life, now.realm, now.force);
    }

    public int deed(int person, int much) {
        if (!now.realm.hasPerson(person) || !isWithin(much, 1, ACT_MOST)) {
            return NONE;
        }
        now.remember();
        now.life.thank(person, much);
        return now.life.thanks[person];
    }

    public int slight(int person, int much) {
        if (!now.realm.hasPerson(person) || !isWithin(much, 1, ACT_MOST)
                || now.life.thanks[person] < much) {
            return NONE;
        }
        now.remember();
        now.life.thanks[person] -= much;
        return now.life.thanks[person];
    }

    public int tray(int thing) {
        int before = now.life.tray;
        if (thing == before || thing != NONE && !now.realm.hasThing(thing)) {
            return REFUSED;
        }
        now.remember();
        now.life.tray = thing;
        return before;
    }

    public int gloves(int hours) {
        if (!now.realm.told || !isWithin(hours, 1, GLOVES_MOST)) {
            return NONE;
        }
        int before = now.life.gloves;
        now.remember();
        now.life.gloves = hours;
        return before;
    }

    public int strip(int person, int thing) {
        if (!now.realm.hasPerson(person) || !now.realm.hasThing(thing)
                || !now.life.hasTitle(person, thing)) {
            return NONE;
        }
        now.remember();
        now.life.titles[person] &= ~(1 << thing);
        return now.life.titles[person];
    }

    public int undo() {
        if (now.pastSize <= 0) {
            return REFUSED;
        }
        now.takeBack();
        return now.pastSize;
    }

    public int ahead(int number, int n, int what) {
        if (!now.realm.told || !isWithin(n, 0, 100) || !isWithin(what, 0, 2)) {
            return REFUSED;
        }
        if (what > 0 && !now.realm.hasPerson(number)) {
            return REFUSED;
        }
        return oracle.after(number, n, what);
    }

    public int dubbed(int person, int what) {
        if (!now.realm.hasPerson(person) || !isWithin(what, 0, 1)) {
            return NOT_ASKED_SO;
        }
        return oracle.firstDubbing(person, what == 0);
    }

    public int least(int person, int thing, int n) {
        if (!now.realm.hasPerson(person) || !now.realm.hasThing(thing) || !isWithin(n, 1, 60)) {
            return NONE;
        }
        return oracle.leastDeed(person, thing, n);
    }

    public int spare(int thing, int n, int what) {
        if (!now.realm.hasThing(thing) || !isWithin(n, 1, 8) || !isWithin(what, 0, 1)) {
            return NONE;
        }
        int set = oracle.fewestGloves(thing, n);
        return what == 0 ? Integer.bitCount(set) : set;
    }

    public int lay(int person, int n, int what) {
        if (!now.realm.hasPerson(person) || !isWithin(n, 1, 60) || !isWithin(what, 0, 1)) {
            return REFUSED;
        }
        return oracle.bestTray(person, n, what == 0);
    }

    public int held(int n, int what) {
        if (!now.realm.told || !isWithin(n, 1, 100)) {
            return NONE;
        }
        if (what == 6) {
            return oracle.neverHeld(n);
        }
        return now.realm.hasThing(what) ? oracle.timesHeld(what, n) : NONE;
    }

    public int place(int person) {
        return now.realm.hasPerson(person) ? Honours.placeOf(now, person) : NONE;
    }

    public int stripped(int what) {
        if (!now.realm.told || !isWithin(what, 0, 1)) {
            return NONE;
        }
        int set = Honours.fewestToStrip(now);
        return what == 0 ? Integer.bitCount(set) : set;
    }

    public int gold(int much, int person) {
        if (!now.realm.hasPerson(person) || !isWithin(much, 0, 9999)) {
            return NONE;
        }
        return Honours.goldOf(now, much, person);
    }

    public int rests(int one, int other, int n, int what) {
        if (!now.realm.hasPerson(one) || !now.realm.hasPerson(other) || one == other
                || !isWithin(n, 1, 20) || !isWithin(what, 0, 2)) {
            return NONE;
        }
        oracle.playAllTwos(one, other, n);
        return oracle.restOfTwos(what);
    }

    public int ring(int what) {
        if (!now.realm.told || !isWithin(what, 0, 1)) {
            return NONE;
        }
        return oracle.ringOfHours(what == 0);
    }

    public int note(int n, int thing) {
        if (n == NONE) {
            now.notes = 0;
            return 0;
        }
        if (!now.realm.told || !isWithin(n, 0, LAST_NOTED_HOUR) || now.notes >= NOTES_MOST
                || thing != NONE && !now.realm.hasThing(thing)) {
            return REFUSED;
        }
        now.noteHours[now.notes] = n;
        now.noteThings[now.notes] = thing;
        now.notes++;
        return now.notes;
    }

    public int ruled(int what) {
        if (!now.realm.told || !isWithin(what, 0, 1)) {
            return NOT_ASKED_SO;
        }
        inquest.hear(ruleCount);
        return what == 0 ? inquest.suspects : inquest.first();
    }

    public int look(int what) {
        if (!now.realm.told || !isWithin(what, 0, 1)) {
            return NONE;
        }
        inquest.hear(ruleCount);
        return inquest.bestHour(what == 0);
    }

    public int seed(int x) {
        if (x < 0) {
            return NONE;
        }
        int before = now.x;
        now.x = x;
        return before;
    }

    public int years(int m, int n, int p, int what) {
        if (!now.realm.told || !isWithin(m, 1, 10) || !isWithin(n, 1, 60)
                || !isWithin(p, 0, 100) || !isWithin(what, 0, 1)) {
            return NONE;
        }
        return oracle.drawnYears(m, n, p, what == 0);
    }

    public int count(int what) {
        switch (what) {
            case 0: return now.realm.day;
            case 1: return now.realm.owed;
            case 2: return now.realm.things;
            case 3: return now.realm.people;
            case 4: return ruleCount;
            case 5: return now.force;
            case 6: return now.life.hour;
            case 7: return now.life.last;
            case 8: return now.life.tray;
            case 9: return now.life.gloves;
            case 10: return now.life.knights();
            case 11: return now.notes;
            case 12: return now.pastSize;
            case 13: return now.x;
            case 14: return tape.size;
            default: return NONE;
        }
    }

    public int image(int k) {
        if (!isWithin(k, 0, IMAGES_MOST - 1)) {
            return NONE;
        }
        if (images[k] == null) {
            images[k] = new Whole();
        }
        images[k].copyFrom(now);
        return now.life.hour;
    }

    public int back(int k) {
        if (!isWithin(k, 0, IMAGES_MOST - 1) || images[k] == null) {
            return NONE;
        }
        now.copyFrom(images[k]);
        return now.life.hour;
    }

    private static boolean isWithin(int number, int least, int most) {
        return number >= least && number <= most;
    }

    /** The COURT as its text told it: no ACT changes it. Without a COURT all of it is 0. */
    private static final class Realm {
        boolean told;
        int day;
        int owed;
        int things;
        int people;
        final int[] rank = new int[THINGS_MOST];
        final int[] quarrels = new int[THINGS_MOST];
        final int[] inHand = new int[DAY_MOST];
        final int[] thanks = new int[PEOPLE_MOST];
        final int[] serves = new int[PEOPLE_MOST];

        void clear() {
            told = false;
            day = 0;
            owed = 0;
            things = 0;
            people = 0;
            Arrays.fill(rank, 0);
            Arrays.fill(quarrels, 0);
            Arrays.fill(inHand, NONE);
            Arrays.fill(thanks, 0);
            Arrays.fill(serves, 0);
        }

        void copyFrom(Realm other) {
            told = other.told;
            day = other.day;
            owed = other.owed;
            things = other.things;
            people = other.people;
            System.arraycopy(other.rank, 0, rank, 0, THINGS_MOST);
            System.arraycopy(other.quarrels, 0, quarrels, 0, THINGS_MOST);
            System.arraycopy(other.inHand, 0, inHand, 0, DAY_MOST);
            System.arraycopy(other.thanks, 0, thanks, 0, PEOPLE_MOST);
            System.arraycopy(other.serves, 0, serves, 0, PEOPLE_MOST);
        }

        boolean hasThing(int thing) {
            return thing >= 0 && thing < things;
        }

        boolean hasPerson(int person) {
            return person >= 0 && person < people;
        }

        int clockAt(int hour) {
            return day > 0 ? hour % day : 0;
        }

        int rankOf(int titles) {
            int sum = 0;
            for (int t = 0; t < things; t++) {
                if ((titles >> t & 1) != 0) {
                    sum += rank[t];
                }
            }
            return sum;
        }
    }

    /** What ACTS change, and what one of them has to keep to be UNDONE. */
    private static final class Life {
        int hour;
        int last = NONE;
        int tray = NONE;
        int gloves;
        final int[] thanks = new int[PEOPLE_MOST];
        final int[] titles = new int[PEOPLE_MOST];
        final int[] byHand = new int[PEOPLE_MOST];
        final int[] times = new int[THINGS_MOST];

        void begin(Realm realm) {
            hour = 0;
            last = NONE;
            tray = NONE;
            gloves = 0;
            System.arraycopy(realm.thanks, 0, thanks, 0, PEOPLE_MOST);
            Arrays.fill(titles, 0);
            Arrays.fill(byHand, 0);
            Arrays.fill(times, 0);
        }

        void copyFrom(Life other) {
            hour = other.hour;
            last = other.last;
            tray = other.tray;
            gloves = other.gloves;
            System.arraycopy(other.thanks, 0, thanks, 0, PEOPLE_MOST);
            System.arraycopy(other.titles, 0, titles, 0, PEOPLE_MOST);
            System.arraycopy(other.byHand, 0, byHand, 0, PEOPLE_MOST);
            System.arraycopy(other.times, 0, times, 0, THINGS_MOST);
        }

        void thank(int person, int much) {
            thanks[person] = Math.min(THANKS_MOST, thanks[person] + much);
        }

        boolean hasTitle(int person, int thing) {
            return (titles[person] >> thing & 1) != 0;
        }

        int bearers(int thing) {
            int sum = 0;
            for (int p = 0; p < PEOPLE_MOST; p++) {
                sum += titles[p] >> thing & 1;
            }
            return sum;
        }

        int knights() {
            int bits = 0;
            for (int p = 0; p < PEOPLE_MOST; p++) {
                if (titles[p] != 0) {
                    bits |= 1 << p;
                }
            }
            return bits;
        }
    }

    /** All that an IMAGE keeps: everything but the RULES and the TAPE. */
    private static final class Whole {
        final Realm realm = new Realm();
        final Life life = new Life();
        final Life[] past = new Life[UNDO_MOST];
        int pastFirst;
        int pastSize;
        final int[] noteHours = new int[NOTES_MOST];
        final int[] noteThings = new int[NOTES_MOST];
        int notes;
        int force = NONE;
        int x;

        Whole() {
            for (int i = 0; i < past.length; i++) {
                past[i] = new Life();
            }
        }

        /** Called ahead of each ACT; the oldest gives way when there are enough. */
        void remember() {
            past[(pastFirst + pastSize) % UNDO_MOST].copyFrom(life);
            if (pastSize < UNDO_MOST) {
                pastSize++;
            } else {
                pastFirst = (pastFirst + 1) % UNDO_MOST;
            }
        }

        void takeBack() {
            pastSize--;
            life.copyFrom(past[(pastFirst + pastSize) % UNDO_MOST]);
        }

        void copyFrom(Whole other) {
            realm.copyFrom(other.realm);
            life.copyFrom(other.life);
            pastFirst = other.pastFirst;
            pastSize = other.pastSize;
            for (int i = 0; i < pastSize; i++) {
                int slot = (pastFirst + i) % UNDO_MOST;
                past[slot].copyFrom(other.past[slot]);
            }
            System.arraycopy(other.noteHours, 0, noteHours, 0, NOTES_MOST);
            System.arraycopy(other.noteThings, 0, noteThings, 0, NOTES_MOST);
            notes = other.notes;
            force = other.force;
            x = other.x;
        }
    }

    /** The TAPE, and how far it has been read as a text; the first FAULT stays. */
    private static final class Tape {
        private static final int DIGITS_MOST = 5;

        final int[] bytes = new int[TAPE_MOST];
        int size;
        int at;
        int fault;

        /** The caller has seen to it that there is room. */
        void append(int number) {
            for (int shift = 24; shift >= 0 && size < TAPE_MOST; shift -= 8) {
                bytes[size] = number >> shift & 255;
                size++;
            }
        }

        void rewind() {
            at = 0;
            fault = 0;
        }

        void refuse(int where, int kind) {
            if (fault == 0) {
                fault = 1 + 8 * where + kind;
            }
        }

        /** The next byte that is no blank, and the reading stands at it; NONE at the end. */
        int sign() {
            while (at < size && bytes[at] == ' ') {
                at++;
            }
            return at < size ? bytes[at] : NONE;
        }

        boolean takeSign(int wanted) {
            if (fault != 0 || sign() != wanted) {
                return false;
            }
            at++;
            return true;
        }

        int number(int least, int most) {
            sign();
            int start = at;
            int value = 0;
            while (at < size && bytes[at] >= '0' && bytes[at] <= '9') {
                if (at - start < DIGITS_MOST) {
                    value = value * 10 + bytes[at] - '0';
                }
                at++;
            }
            if (at == start) {
                refuse(start, 0);
            } else if (at - start > DIGITS_MOST || value < least || value > most) {
                refuse(start, 1);
            }
            return value;
        }

        /** Which of the words of a list, parted by blanks, stands here, whole; NONE: none. */
        int wordIn(String list) {
            sign();
            int length = wordEnd() - at;
            int start = 0;
            int index = 0;
            for (int i = 0; i <= list.length(); i++) {
                if (i == list.length() || list.charAt(i) == ' ') {
                    if (i - start == length && isHere(list, start, length)) {
                        return index;
                    }
                    index++;
                    start = i + 1;
                }
            }
            return NONE;
        }

        boolean takeWord(String word) {
            if (fault != 0 || wordIn(word) != 0) {
                return false;
            }
            skipWord();
            return true;
        }

        void skipWord() {
            at = wordEnd();
        }

        private int wordEnd() {
            int stop = at;
            while (stop < size && bytes[stop] >= 'a' && bytes[stop] <= 'z') {
                stop++;
            }
            return stop;
        }

        private boolean isHere(String list, int start, int length) {
            for (int i = 0; i < length; i++) {
                if (bytes[at + i] != list.charAt(start + i)) {
                    return false;
                }
            }
            return true;
        }
    }

    /** Reads the TAPE as a COURT into a draft, so that a FAULT leaves the court as it is. */
    private static final class CourtReader {
        private static final int CLAUSES_MOST = 40;
        private static final String KINDS = "court thing holds person quarrel";
        private static final int COURT = 0;
        private static final int THING = 1;
        private static final int HOLDS = 2;
        private static final int PERSON = 3;

        private final Tape tape;
        private final Realm draft;

        CourtReader(Tape tape, Realm draft) {
            this.tape = tape;
            this.draft = draft;
        }

        /** The FAULT, 0 if there is none. */
        int read() {
            tape.rewind();
            draft.clear();
            for (int clause = 0; clause <= CLAUSES_MOST; clause++) {
                readClause(clause);
                if (tape.fault != 0 || tape.sign() == NONE) {
                    break;
                }
                if (!tape.takeSign(';')) {
                    tape.refuse(tape.at, 0);
                    break;
                }
            }
            return tape.fault;
        }

        private void readClause(int clause) {
            int kind = tape.wordIn(KINDS);
            if (kind == NONE) {
                tape.refuse(tape.at, 0);
                return;
            }
            if (isOutOfPlace(kind, clause)) {
                tape.refuse(tape.at, 4);
                return;
            }
            tape.skipWord();
            switch (kind) {
                case COURT: readCourt(); break;
                case THING: readThing(); break;
                case HOLDS: readHolds(); break;
                case PERSON: readPerson(); break;
                default: readQuarrel(); break;
            }
        }

        private boolean isOutOfPlace(int kind, int clause) {
            return clause >= CLAUSES_MOST
                    || (kind == COURT) != (clause == 0)
                    || kind == THING && draft.things >= THINGS_MOST
                    || kind == PERSON && draft.people >= PEOPLE_MOST;
        }

        private void readCourt() {
            draft.day = tape.number(1, DAY_MOST);
            draft.owed = tape.number(1, 99);
            draft.told = true;
        }

        private void readThing() {
            draft.rank[draft.things] = tape.number(0, 20);
            draft.things++;
        }

        private void readHolds() {
            int clock = tape.number(0, draft.day - 1);
            int thing = tape.number(0, draft.things - 1);
            if (tape.fault == 0) {
                draft.inHand[clock] = thing;
            }
        }

        private void readPerson() {
            draft.thanks[draft.people] = tape.number(0, 99);
            draft.serves[draft.people] = tape.number(0, 9);
            draft.people++;
        }

        private void readQuarrel() {
            int one = tape.number(0, draft.things - 1);
            tape.sign();
            int secondAt = tape.at;
            int other = tape.number(0, draft.things - 1);
            if (one == other) {
                tape.refuse(secondAt, 1);
            }
            if (tape.fault == 0) {
                draft.quarrels[one] |= 1 << other;
                draft.quarrels[other] |= 1 << one;
            }
        }
    }

    /**
     * Reads the TAPE as a RULE and writes it as steps for a stack. No step comes of less than
     * one byte of the text, so as many steps as the TAPE has bytes are enough.
     */
    private static final class RuleReader {
        private static final int CLAUSES_MOST = 12;
        private static final int DEEP_MOST = 10;
        private static final int PARTS_MOST = 60;

        private final Tape tape;
        private final int[] steps = new int[TAPE_MOST];
        private final int[] operands = new int[TAPE_MOST];
        private final int[] sumEnds = new int[CLAUSES_MOST];
        private final int[] testEnds = new int[CLAUSES_MOST];
        private int size;
        private int clauses;
        private int parts;

        RuleReader(Tape tape) {
            this.tape = tape;
        }

        /** The FAULT, 0 if there is none. */
        int read() {
            tape.rewind();
            size = 0;
            clauses = 0;
            parts = 0;
            for (int i = 0; i <= CLAUSES_MOST; i++) {
                openClause();
                readSum();
                closeSum();
                if (tape.takeWord("if")) {
                    readTest(0);
                }
                closeClause();
                if (tape.fault != 0 || tape.sign() == NONE) {
                    break;
                }
                if (!tape.takeSign(';')) {
                    tape.refuse(tape.at, 0);
                    break;
                }
            }
            return tape.fault;
        }

        Rule made() {
            return new Rule(Arrays.copyOf(steps, size), Arrays.copyOf(operands, size),
                    Arrays.copyOf(sumEnds, clauses), Arrays.copyOf(testEnds, clauses));
        }

        private void openClause() {
            if (tape.wordIn("hold") == NONE) {
                tape.refuse(tape.at, 0);
            } else if (clauses >= CLAUSES_MOST) {
                tape.refuse(tape.at, 4);
            } else {
                tape.skipWord();
            }
        }

        private void closeSum() {
            if (clauses < CLAUSES_MOST) {
                sumEnds[clauses] = size;
            }
        }

        private void closeClause() {
            if (clauses < CLAUSES_MOST) {
                testEnds[clauses] = size;
                clauses++;
            }
        }

        /** "or" waits for all that "and" joins on its right. */
        private void readTest(int depth) {
            boolean isOrWaiting = false;
            readFact(depth);
            for (int i = 0; i < TAPE_MOST && tape.fault == 0; i++) {
                if (tape.takeWord("and")) {
                    readFact(depth);
                    write(Rule.AND, 0);
                } else if (tape.takeWord("or")) {
                    if (isOrWaiting) {
                        write(Rule.OR, 0);
                    }
                    isOrWaiting = true;
                    readFact(depth);
                } else {
                    break;
                }
            }
            if (isOrWaiting) {
                write(Rule.OR, 0);
            }
        }

        private void readFact(int depth) {
            if (tape.fault != 0) {
                return;
            }
            boolean isNot = tape.wordIn("not") == 0;
            if (!isNot && tape.sign() != '[') {
                readSum();
                int step = readComparing();
                readSum();
                write(step, 0);
            } else if (depth >= DEEP_MOST) {
                tape.refuse(tape.at, 2);
            } else if (isNot) {
                tape.skipWord();
                readFact(depth + 1);
                write(Rule.NOT, 0);
            } else {
                tape.takeSign('[');
                readTest(depth + 1);
                if (!tape.takeSign(']')) {
                    tape.refuse(tape.at, 0);
                }
            }
        }

        /** The step of a SIGN. */
        private int readComparing() {
            int sign = tape.sign();
            if (sign != '<' && sign != '=' && sign != '>') {
                tape.refuse(tape.at, 0);
                return NONE;
            }
            countPart(tape.at);
            tape.at++;
            if (sign == '=') {
                return Rule.EQUAL;
            }
            boolean isOrEqual = tape.at < tape.size && tape.bytes[tape.at] == '=';
            if (isOrEqual) {
                tape.at++;
            }
            if (sign == '<') {
                return isOrEqual ? Rule.AT_MOST : Rule.BELOW;
            }
            return isOrEqual ? Rule.AT_LEAST : Rule.ABOVE;
        }

        /** + and - wait for all that * / % join on their right. */
        private void readSum() {
            int waiting = NONE;
            readValue();
            for (int i = 0; i < TAPE_MOST && tape.fault == 0; i++) {
                int sign = tape.sign();
                if (sign == '*' || sign == '/' || sign == '%') {
                    tape.at++;
                    readValue();
                    write(sign == '*' ? Rule.TIMES : sign == '/' ? Rule.BY : Rule.REST, 0);
                } else if (sign == '+' || sign == '-') {
                    if (waiting != NONE) {
                        write(waiting, 0);
                    }
                    waiting = sign == '+' ? Rule.PLUS : Rule.MINUS;
                    tape.at++;
                    readValue();
                } else {
                    break;
                }
            }
            if (waiting != NONE) {
                write(waiting, 0);
            }
        }

        private void readValue() {
            if (tape.fault != 0) {
                return;
            }
            int sign = tape.sign();
            int start = tape.at;
            int step = Rule.NUMBER;
            int operand = 0;
            if (sign >= '0' && sign <= '9') {
                operand = tape.number(0, 99999);
            } else {
                step = Rule.WORD;
                operand = tape.wordIn(Rule.WORDS);
                if (operand == NONE) {
                    tape.refuse(start, 0);
                }
                tape.skipWord();
            }
            countPart(start);
            write(step, operand);
        }

        private void countPart(int where) {
            if (parts >= PARTS_MOST) {
                tape.refuse(where, 3);
            }
            parts++;
        }

        private void write(int step, int operand) {
            if (tape.fault == 0 && size < TAPE_MOST) {
                steps[size] = step;
                operands[size] = operand;
                size++;
            }
        }
    }

    /**
     * A RULE as steps for a stack: of each CLAUSE those of its SUM, then those of its TEST
     * (none, if it has none). Truth is 1, and 0 if it does not hold.
     */
    private static final class Rule {
        static final String WORDS =
                "thing rank clock usual last times titles due knights most people hour";
        static final int WORD_COUNT = 12;
        static final int NUMBER = 0;
        static final int WORD = 1;
        static final int NOT = 2;
        static final int PLUS = 3;
        static final int MINUS = 4;
        static final int TIMES = 5;
        static final int BY = 6;
        static final int REST = 7;
        static final int BELOW = 8;
        static final int AT_MOST = 9;
        static final int EQUAL = 10;
        static final int AT_LEAST = 11;
        static final int ABOVE = 12;
        static final int AND = 13;
        static final int OR = 14;

        private final int[] steps;
        private final int[] operands;
        private final int[] sumEnds;
        private final int[] testEnds;

        Rule(int[] steps, int[] operands, int[] sumEnds, int[] testEnds) {
            this.steps = steps;
            this.operands = operands;
            this.sumEnds = sumEnds;
            this.testEnds = testEnds;
        }

        /** What the THING that the words tell of comes to; the caller lends the stack. */
        long worth(long[] words, long[] stack) {
            int start = 0;
            for (int c = 0; c < sumEnds.length && c < testEnds.length; c++) {
                boolean hasTest = testEnds[c] > sumEnds[c];
                if (!hasTest || outcome(sumEnds[c], testEnds[c], words, stack) != 0) {
                    return outcome(start, sumEnds[c], words, stack);
                }
                start = testEnds[c];
            }
            return 0;
        }

        private long outcome(int from, int to, long[] words, long[] stack) {
            int height = 0;
            for (int i = from; i < to && i < steps.length; i++) {
                int step = steps[i];
                int operand = operands[i];
                if (step == NUMBER && height < stack.length) {
                    stack[height] = operand;
                    height++;
                } else if (step == WORD && height < stack.length && operand < words.length) {
                    stack[height] = words[operand];
                    height++;
                } else if (step == NOT && height > 0) {
                    stack[height - 1] = 1 - stack[height - 1];
                } else if (height > 1) {
                    height--;
                    stack[height - 1] = joined(step, stack[height - 1], stack[height]);
                }
            }
            return height > 0 ? stack[height - 1] : 0;
        }

        private static long joined(int step, long left, long right) {
            switch (step) {
                case PLUS: return left + right;
                case MINUS: return left - right;
                case TIMES: return left * right;
                case BY: return right == 0 ? 0 : left / right;
                case REST: return right == 0 ? 0 : left % right;
                case BELOW: return left < right ? 1 : 0;
                case AT_MOST: return left <= right ? 1 : 0;
                case EQUAL: return left == right ? 1 : 0;
                case AT_LEAST: return left >= right ? 1 : 0;
                case ABOVE: return left > right ? 1 : 0;
                case AND: return left & right;
                case OR: return left | right;
                default: return 0;
            }
        }
    }

    /** Lets HOURS pass, of the court itself and of copies of it that are asked. */
    private static final class Clockwork {
        /** Far above the 26 that TESTS of ten brackets can lay there at once. */
        private static final int STACK_MOST = 64;

        private final Rule[] rules;
        private final long[] words = new long[Rule.WORD_COUNT];
        private final long[] stack = new long[STACK_MOST];

        Clockwork(Rule[] rules) {
            this.rules = rules;
        }

        /** What he holds in the HOUR that begins now; NONE: nothing. */
        int hand(Life life, Realm realm, int force) {
            if (life.gloves > 0) {
                return NONE;
            }
            if (life.tray != NONE) {
                return life.tray;
            }
            Rule rule = force >= 0 && force < rules.length ? rules[force] : null;
            if (rule == null) {
                return realm.inHand[realm.clockAt(life.hour)];
            }
            tellHour(life, realm);
            int best = NONE;
            long most = 0;
            for (int t = 0; t < realm.things; t++) {
                tellThing(life, realm, t);
                long worth = rule.worth(words, stack);
                if (worth > most) {
                    most = worth;
                    best = t;
                }
            }
            return best;
        }

        /** An HOUR: PEOPLE who are dubbed in it, as bits. */
        int pass(Life life, Realm realm, int force) {
            int held = hand(life, realm, force);
            life.tray = NONE;
            life.gloves = Math.max(0, life.gloves - 1);
            life.last = held;
            if (held >= 0) {
                life.times[held]++;
            }
            int dubbedNow = 0;
            for (int p = 0; p < realm.people; p++) {
                life.thank(p, realm.serves[p]);
                if (life.thanks[p] >= realm.owed) {
                    dubbedNow |= 1 << p;
                    life.thanks[p] = 0;
                    if (held >= 0) {
                        life.titles[p] |= 1 << held;
                    } else {
                        life.byHand[p]++;
                    }
                }
            }
            life.hour++;
            return dubbedNow;
        }

        private void tellHour(Life life, Realm realm) {
            int due = 0;
            int most = 0;
            for (int p = 0; p < realm.people; p++) {
                if (life.thanks[p] >= realm.owed) {
                    due++;
                }
                most = Math.max(most, life.thanks[p]);
            }
            words[2] = realm.clockAt(life.hour);
            words[7] = due;
            words[8] = Integer.bitCount(life.knights());
            words[9] = most;
            words[10] = realm.people;
            words[11] = life.hour;
        }

        private void tellThing(Life life, Realm realm, int t) {
            words[0] = t;
            words[1] = realm.rank[t];
            words[3] = realm.inHand[realm.clockAt(life.hour)] == t ? 1 : 0;
            words[4] = life.last == t ? 1 : 0;
            words[5] = life.times[t];
            words[6] = life.bearers(t);
        }
    }

    /** Asks how it goes on, on a trial copy, so that nothing changes. */
    private static final class Oracle {
        private static final int DUBBED_WITHIN = 100;
        private static final int DEED_TRIED_MOST = 200;
        private static final int CHOICES = 5;
        private static final int RING_FROM_MOST = 60;
        private static final int RING_LENGTH = 6;

        private final Whole now;
        private final Clockwork clockwork;
        private final Life trial = new Life();
        private final int[] heldAhead = new int[RING_FROM_MOST + RING_LENGTH];
        private final int[] gainsOfOne = new int[CHOICES * CHOICES];
        private final int[] gainsOfOther = new int[CHOICES * CHOICES];

        Oracle(Whole now, Clockwork clockwork) {
            this.now = now;
            this.clockwork = clockwork;
        }

        private void begin() {
            trial.copyFrom(now.life);
        }

        private void goOn(int n) {
            for (int i = 0; i < n; i++) {
                clockwork.pass(trial, now.realm, now.force);
            }
        }

        int after(int number, int n, int what) {
            begin();
            goOn(n);
            if (what == 0) {
                return clockwork.hand(trial, now.realm, now.force);
            }
            return what == 1 ? trial.titles[number] : trial.thanks[number];
        }

        int firstDubbing(int person, boolean isHourAsked) {
            begin();
            for (int i = 0; i < DUBBED_WITHIN; i++) {
                int dubbedThen = clockwork.pass(trial, now.realm, now.force);
                if ((dubbedThen >> person & 1) != 0) {
                    return isHourAsked ? trial.hour - 1 : trial.last;
                }
            }
            return REFUSED;
        }

        /**
         * Who is dubbed at once has no THANKS then, however great the DEED: with the same THING
         * in hand it goes on as it did for a lesser one, and that was in vain.
         */
        int leastDeed(int person, int thing, int n) {
            int heldInVain = REFUSED;
            for (int much = 0; much <= DEED_TRIED_MOST; much++) {
                begin();
                trial.thank(person, much);
                int dubbedThen = clockwork.pass(trial, now.realm, now.force);
                boolean isAtOnce = (dubbedThen >> person & 1) != 0;
                int heldAtOnce = trial.last;
                if (isAtOnce && heldAtOnce == heldInVain) {
                    continue;
                }
                for (int i = 1; i < n && !trial.hasTitle(person, thing); i++) {
                    clockwork.pass(trial, now.realm, now.force);
                }
                if (trial.hasTitle(person, thing)) {
                    return much;
                }
                heldInVain = isAtOnce ? heldAtOnce : heldInVain;
            }
            return REFUSED;
        }

        /** Gloves in all these HOURS always do, so there is a set. */
        int fewestGloves(int thing, int n) {
            int best = (1 << n) - 1;
            for (int set = 0; set < 1 << n; set++) {
                if (Integer.bitCount(set) < Integer.bitCount(best) && isSpared(thing, n, set)) {
                    best = set;
                }
            }
            return best;
        }

        private boolean isSpared(int thing, int n, int set) {
            begin();
            for (int i = 0; i < n; i++) {
                trial.gloves = set >> i & 1;
                int dubbedThen = clockwork.pass(trial, now.realm, now.force);
                if (dubbedThen != 0 && trial.last == thing) {
                    return false;
                }
            }
            return true;
        }

        int bestTray(int person, int n, boolean isThingAsked) {
            int best = NONE;
            int most = NONE;
            for (int laid = NONE; laid < now.realm.things; laid++) {
                begin();
                trial.tray = laid;
                goOn(n);
                int sum = now.realm.rankOf(trial.titles[person]);
                if (sum > most) {
                    most = sum;
                    best = laid;
                }
            }
            return isThingAsked ? best : most;
        }

        int timesHeld(int thing, int n) {
            begin();
            goOn(n);
            return trial.times[thing] - now.life.times[thing];
        }

        int neverHeld(int n) {
            begin();
            goOn(n);
            int bits = 0;
            for (int t = 0; t < now.realm.things; t++) {
                if (trial.times[t] == now.life.times[t]) {
                    bits |= 1 << t;
                }
            }
            return bits;
        }

        void playAllTwos(int one, int other, int n) {
            for (int two = 0; two < CHOICES * CHOICES; two++) {
                int tensOfOne = two / CHOICES;
                int tensOfOther = two % CHOICES;
                begin();
                trial.thank(one, 10 * tensOfOne);
                trial.thank(other, 10 * tensOfOther);
                goOn(n);
                gainsOfOne[two] = now.realm.rankOf(trial.titles[one]) - tensOfOne;
                gainsOfOther[two] = now.realm.rankOf(trial.titles[other]) - tensOfOther;
            }
        }

        /** Asked behind playAllTwos. */
        int restOfTwos(int what) {
            int sum = 0;
            int first = NONE;
            for (int two = 0; two < CHOICES * CHOICES; two++) {
                if (isAtRest(two / CHOICES, two % CHOICES)) {
                    sum++;
                    first = first == NONE ? two : first;
                }
            }
            if (what == 0) {
                return sum;
            }
            if (first == NONE) {
                return REFUSED;
            }
            return 10 * (what == 1 ? first / CHOICES : first % CHOICES);
        }

        private boolean isAtRest(int ofOne, int ofOther) {
            int here = ofOne * CHOICES + ofOther;
            for (int k = 0; k < CHOICES; k++) {
                if (gainsOfOne[k * CHOICES + ofOther] > gainsOfOne[here]
                        || gainsOfOther[ofOne * CHOICES + k] > gainsOfOther[here]) {
                    return false;
                }
            }
            return true;
        }

        int ringOfHours(boolean isHourAsked) {
            begin();
            for (int i = 0; i < heldAhead.length; i++) {
                clockwork.pass(trial, now.realm, now.force);
                heldAhead[i] = trial.last;
            }
            for (int from = 0; from < RING_FROM_MOST; from++) {
                for (int later = from + 1; later <= RING_FROM_MOST; later++) {
                    if (isAlike(from, later)) {
                        return isHourAsked ? now.life.hour + from : later - from;
                    }
                }
            }
            return REFUSED;
        }

        private boolean isAlike(int from, int later) {
            for (int i = 0; i < RING_LENGTH && later + i < heldAhead.length; i++) {
                if (heldAhead[from + i] != heldAhead[later + i]) {
                    return false;
                }
            }
            return true;
        }

        int drawnYears(int m, int n, int p, boolean isDubbingAsked) {
            int x = now.x;
            int dubbings = 0;
            int ranks = 0;
            for (int i = 0; i < m; i++) {
                begin();
                for (int h = 0; h < n; h++) {
                    x = nextDrawn(x);
                    if (x / 65536 % 100 < p && now.realm.things > 0) {
                        x = nextDrawn(x);
                        trial.tray = x / 65536 % now.realm.things;
                    }
                    int dubbedThen = clockwork.pass(trial, now.realm, now.force);
                    if (trial.last != NONE) {
                        dubbings += Integer.bitCount(dubbedThen);
                    }
                }
                for (int k = 0; k < now.realm.people; k++) {
                    ranks += now.realm.rankOf(trial.titles[k]);
                }
            }
            return isDubbingAsked ? dubbings : ranks;
        }

        /** What goes round in 32 bits is right in the last 31, which are the rest asked for. */
        private static int nextDrawn(int x) {
            return x * 1103515245 + 12345 & 2147483647;
        }
    }

    /** Asks by which of the RULES, and of none, all NOTES would be so; none is row 0. */
    private static final class Inquest {
        private static final int ROWS = RULES_MOST + 1;

        private final Whole now;
        private final Clockwork clockwork;
        private final Life trial = new Life();
        private final int[][] heldBy = new int[ROWS][LAST_NOTED_HOUR + 1];
        private final boolean[] isSo = new boolean[ROWS];
        private final int[] alike = new int[THINGS_MOST + 1];
        int suspects;

        Inquest(Whole now, Clockwork clockwork) {
            this.now = now;
            this.clockwork = clockwork;
        }

        void hear(int ruleCount) {
            suspects = 0;
            for (int row = 0; row < ROWS; row++) {
                isSo[row] = false;
                if (row <= ruleCount) {
                    playFromBegin(row);
                    isSo[row] = areNotesSo(row);
                }
                if (isSo[row]) {
                    suspects++;
                }
            }
        }

        private void playFromBegin(int row) {
            trial.begin(now.realm);
            for (int h = 0; h <= LAST_NOTED_HOUR; h++) {
                clockwork.pass(trial, now.realm, row - 1);
                heldBy[row][h] = trial.last;
            }
        }

        private boolean areNotesSo(int row) {
            for (int i = 0; i < now.notes; i++) {
                if (heldBy[row][now.noteHours[i]] != now.noteThings[i]) {
                    return false;
                }
            }
            return true;
        }

        int first() {
            for (int row = 0; row < ROWS; row++) {
                if (isSo[row]) {
                    return row - 1;
                }
            }
            return REFUSED;
        }

        int bestHour(boolean isHourAsked) {
            if (suspects == 0) {
                return REFUSED;
            }
            int best = 0;
            int fewest = ROWS + 1;
            for (int h = 0; h <= LAST_NOTED_HOUR; h++) {
                int most = mostAlike(h);
                if (most < fewest) {
                    fewest = most;
                    best = h;
                }
            }
            return isHourAsked ? best : fewest;
        }

        private int mostAlike(int hour) {
            Arrays.fill(alike, 0);
            int most = 0;
            for (int row = 0; row < ROWS; row++) {
                if (isSo[row]) {
                    int held = heldBy[row][hour] + 1;
                    alike[held]++;
                    most = Math.max(most, alike[held]);
                }
            }
            return most;
        }
    }

    /** What the TITLES of now come to. */
    private static final class Honours {
        static int placeOf(Whole now, int person) {
            int own = now.realm.rankOf(now.life.titles[person]);
            int better = 0;
            for (int p = 0; p < now.realm.people; p++) {
                int rank = now.realm.rankOf(now.life.titles[p]);
                if (rank > own || rank == own && p < person) {
                    better++;
                }
            }
            return better;
        }

        /** PEOPLE as bits, fewest, then least. */
        static int fewestToStrip(Whole now) {
            int all = (1 << now.realm.people) - 1;
            int best = all;
            for (int set = 0; set < all; set++) {
                if (Integer.bitCount(set) < Integer.bitCount(best) && isPeaceWithout(now, set)) {
                    best = set;
                }
            }
            return best;
        }

        /** Two have one each, or one has both: either way both are among all TITLES together. */
        private static boolean isPeaceWithout(Whole now, int set) {
            int titles = 0;
            for (int p = 0; p < now.realm.people; p++) {
                if ((set >> p & 1) == 0) {
                    titles |= now.life.titles[p];
                }
            }
            for (int t = 0; t < now.realm.things; t++) {
                if ((titles >> t & 1) != 0 && (titles & now.realm.quarrels[t]) != 0) {
                    return false;
                }
            }
            return true;
        }

        /** Of what is left one goes to each of the first, by what they lost. */
        static int goldOf(Whole now, int much, int person) {
            int total = 0;
            for (int p = 0; p < now.realm.people; p++) {
                total += now.realm.rankOf(now.life.titles[p]);
            }
            if (total <= 0) {
                return 0;
            }
            int own = much * now.realm.rankOf(now.life.titles[person]);
            int left = much;
            int before = 0;
            for (int p = 0; p < now.realm.people; p++) {
                int share = much * now.realm.rankOf(now.life.titles[p]);
                left -= share / total;
                if (share % total > own % total || share % total == own % total && p < person) {
                    before++;
                }
            }
            return own / total + (before < left ? 1 : 0);
        }
    }
}
