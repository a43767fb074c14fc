import java.util.Arrays;

// People who bite cloves to be away: where they go, by whose law they come back, and what comes of it.
public final class FarSide {
    public static final int NONE = -1;

    private static final int NO_SUCH = -2;
    private static final int NO_ANSWER = -100;
    private static final int NO_WORTH = -10000;

    private static final int PLACES = 8;
    private static final int MOST_JOY = 9;
    private static final int MOST_PEOPLE = 5;
    private static final int MOST_DEPTH = 8;
    private static final int MOST_CLOVES = 99;
    private static final int MOST_SINCE = 99;
    private static final int LAST_HOUR = 9999;
    private static final int MOST_HOURS = 60;
    private static final int FIRST_X = 383;
    private static final int MOST_LINES = 30;
    private static final int MOST_STEPS = 30;
    private static final int MOST_BEHIND = 1000000;

    private static final int BITTEN = 0;
    private static final int COME_BACK = 1;
    private static final int WALKED = 2;

    private static final int MOST_TEXTS = 4;
    private static final int MOST_BYTES = 300;
    private static final int MOST_CLAUSES = 24;
    private static final int CLAUSE_SIZE = 3;
    private static final int MOST_OPEN = 8;
    private static final int MOST_NUMBER = 9999;
    private static final int MOST_VALUE = 1000000;
    private static final int MOST_BITES = 99;
    private static final int MOST_RETURNS = 10;
    private static final int PLAIN_BITES = 1;
    private static final int PLAIN_RETURNS = 2;

    private static final int DAY_HOURS = 24;
    private static final int MOST_DUTIES = 6;
    private static final int MOST_ENTRIES = 16;
    private static final int MOST_FACTORS = 8;
    private static final int SEVEN = 7;
    private static final int MOST_FITTED = 3;
    private static final int MOST_AHEAD = 20;
    private static final int MOST_LIKELY = 6;
    private static final int MOST_SAID = 8;
    private static final int MOST_SEED = 9999;
    private static final int MOST_YEARS = 40;

    private final World now;
    private final World kept;
    private final Folk foreseen;
    private final Tape tape;
    private final Reader reader;
    private final Outlook outlook;

    public FarSide() {
        Asker asker = new Asker();
        now = new World(asker);
        kept = new World(asker);
        foreseen = new Folk();
        tape = new Tape();
        reader = new Reader(tape);
        outlook = new Outlook();
    }

    public int person(int place, int cloves) {
        if (!isPlace(place) || cloves < 0 || cloves > MOST_CLOVES) {
            return NONE;
        }
        return now.folk.tell(place, cloves);
    }

    public boolean behind(int place, int to) {
        if (!isPlace(place) || !isPlace(to)) {
            return false;
        }
        now.land.tellNext(place, to);
        return true;
    }

    public boolean joy(int place, int joy) {
        if (!isPlace(place) || joy < -MOST_JOY || joy > MOST_JOY) {
            return false;
        }
        now.land.tellJoy(place, joy);
        return true;
    }

    public int feed(int a, int b, int c, int d, int e) {
        if (!tape.hasRoom()) {
            return NONE;
        }
        tape.append(a);
        tape.append(b);
        tape.append(c);
        tape.append(d);
        tape.append(e);
        return tape.length();
    }

    public int end(int n) {
        if (n < 0 || n > tape.length()) {
            return NONE;
        }
        tape.cut(n);
        return n;
    }

    public int text() {
        if (now.textCount() == MOST_TEXTS) {
            return NONE;
        }
        boolean good = reader.reads();
        tape.cut(0);
        return good ? now.keepText(reader.result()) : NONE;
    }

    public int fault(int what) {
        return reader.faultPart(what);
    }

    public boolean by(int text) {
        if (text != NONE && !now.hasText(text)) {
            return false;
        }
        now.rule(text);
        return true;
    }

    public int bite(int person) {
        return now.bitten(person, true);
    }

    public int come(int person) {
        return now.comeBack(person, true);
    }

    public boolean walk(int person, int place) {
        return now.walked(person, place, true);
    }

    public boolean buy(int person, int cloves) {
        return now.bought(person, cloves);
    }

    public int hour(int n) {
        if (!areHours(n) || now.folk.get(Folk.HOUR) + n > LAST_HOUR) {
            return NONE;
        }
        int times = 0;
        for (int i = 0; i < n; i++) {
            times += now.passHour(now.folk, true);
        }
        return times;
    }

    public int played(int text) {
        Text played = now.textOf(text);
        if (played == null) {
            return NO_SUCH;
        }
        for (int clause = 0; clause < played.clauseCount(); clause++) {
            if (!now.runClause(played, clause)) {
                return clause;
            }
        }
        return NONE;
    }

    public int years(int seed, int n) {
        if (seed < 0 || seed > MOST_SEED || n < 1 || n > MOST_YEARS) {
            return NONE;
        }
        now.beginYears(seed);
        for (int i = 0; i < n; i++) {
            now.liveOn();
        }
        return now.folk.get(Folk.HOUR);
    }

    public int undo() {
        return now.takeBack();
    }

    public int of(int person, int what) {
        if (!now.folk.has(person)) {
            return NO_ANSWER;
        }
        switch (what) {
            case 0: return now.folk.placeOf(person, now.land);
            case 1: return now.folk.part(person, Folk.BASE);
            case 2: return now.folk.part(person, Folk.DEPTH);
            case 3: return now.folk.part(person, Folk.CLOVES);
            case 4: return now.folk.part(person, Folk.SINCE);
            case 5: return now.bitesNow(person);
            case 6: return now.returnsNow(person);
            default: return NO_ANSWER;
        }
    }

    public int place(int place, int what) {
        if (!isPlace(place)) {
            return NO_ANSWER;
        }
        switch (what) {
            case 0: return now.land.nextOf(place);
            case 1: return now.land.joyOf(place);
            case 2: return now.folk.peopleAt(place, now.land);
            default: return NO_ANSWER;
        }
    }

    public int is(int what) {
        switch (what) {
            case 0: return now.folk.get(Folk.HOUR);
            case 1: return now.folk.get(Folk.X);
            case 2: return now.folk.total(Folk.CLOVES);
            case 3: return now.folk.total(Folk.DEPTH);
            default: return NO_SUCH;
        }
    }

    public int book(int i, int what) {
        return i == NONE ? now.folk.get(Folk.LINES) : now.folk.linePart(i, what);
    }

    public int foretold(int n, int person) {
        if (!areHours(n) || !now.folk.has(person)) {
            return NONE;
        }
        foreseen.copy(now.folk);
        for (int i = 0; i < n; i++) {
            now.passHour(foreseen, false);
        }
        return foreseen.part(person, Folk.DEPTH);
    }

    public int after(int place, int n) {
        if (!isPlace(place) || n < 0 || n > MOST_BEHIND) {
            return NONE;
        }
        return now.land.further(place, n);
    }

    public int ring(int place, boolean ahead) {
        if (!isPlace(place)) {
            return NONE;
        }
        return ahead ? now.land.wayToRing(place) : now.land.ringLength(now.land.further(place, PLACES));
    }

    public int rings() {
        return now.land.countRings();
    }

    public int left(int n) {
        return n < 0 || n > PLACES ? NONE : now.land.placesLeft(n);
    }

    public int into(int place) {
        return isPlace(place) ? now.land.placesInto(place) : NONE;
    }

    public int meet(int a, int b, int i) {
        if (!isPlace(a) || !isPlace(b) || i < 0 || i > 2) {
            return NONE;
        }
        return now.land.meetingPart(a, b, i);
    }

    public int game(int place) {
        return isPlace(place) ? now.land.verdict(place) : NONE;
    }

    public int move(int place) {
        return isPlace(place) ? now.land.winningMove(place) : NONE;
    }

    public int miss(int from, int to) {
        return now.day.tell(Day.DOINGS, from, to);
    }

    public int meeting(int from, int to) {
        return now.day.tell(Day.MEETINGS, from, to);
    }

    public int plan(int hours, int i) {
        if (hours < 1 || hours > DAY_HOURS) {
            return NO_SUCH;
        }
        return now.day.planPart(hours, i);
    }

    public int need(int what) {
        switch (what) {
            case 0: return now.day.fewestNeeded();
            case 1: return now.day.mostNeeded();
            default: return NONE;
        }
    }

    public int entry(int value) {
        return now.ledger.tell(value);
    }

    public int law(int what) {
        return now.ledger.lawPart(what);
    }

    public int fits(int of) {
        return of < 0 || of > MOST_FITTED ? NONE : now.ledger.lawsOf(of);
    }

    public int worth(int person, int n) {
        if (!now.folk.has(person) || n < 0 || n > MOST_AHEAD) {
            return NO_WORTH;
        }
        outlook.weigh(now.folk, now.land, person, n);
        return outlook.worthHere();
    }

    public int best(int person, int n) {
        if (!now.folk.has(person) || n < 1 || n > MOST_AHEAD) {
            return NONE;
        }
        outlook.weigh(now.folk, now.land, person, n - 1);
        return outlook.firstChoice();
    }

    public long likely(int person, int n, int depth, boolean low) {
        if (!now.folk.has(person) || n < 0 || n > MOST_LIKELY || depth < 0 || depth > MOST_DEPTH) {
            return NONE;
        }
        int returns = now.returnsNow(person);
        return outlook.chancePart(now.folk.part(person, Folk.DEPTH), returns, n, depth, low);
    }

    public int longing(int person, boolean low) {
        if (!now.folk.has(person)) {
            return NONE;
        }
        int returns = now.returnsNow(person);
        return outlook.hoursPart(now.folk.part(person, Folk.DEPTH), returns, low);
    }

    public int said(int person, int returns) {
        return now.say(person, returns);
    }

    public int whose() {
        return now.textsAsSaid();
    }

    public int deepest() {
        return now.folk.deepestPerson();
    }

    public int away() {
        return now.folk.peopleAway();
    }

    public int alone() {
        return now.folk.peopleAlone(now.land);
    }

    public int gladdest() {
        return now.folk.gladdestPerson(now.land);
    }

    public int ledger(int what) {
        return what < BITTEN || what > WALKED ? NO_SUCH : now.folk.linesOf(what);
    }

    public int image() {
        kept.copy(now);
        return now.folk.get(Folk.HOUR);
    }

    public int back() {
        now.copy(kept);
        return now.folk.get(Folk.HOUR);
    }

    public int about(int what) {
        switch (what) {
            case 0: return now.folk.get(Folk.COUNT);
            case 1: return now.textCount();
            case 2: return now.ruling();
            case 3: return now.stepCount();
            case 4: return now.day.countOf(Day.DOINGS);
            case 5: return now.day.countOf(Day.MEETINGS);
            case 6: return now.ledger.count();
            case 7: return now.saidCount();
            case 8: return tape.length();
            default: return NO_SUCH;
        }
    }

    private static boolean isPlace(int place) {
        return place >= 0 && place < PLACES;
    }

    private static boolean areHours(int n) {
        return n >= 1 && n <= MOST_HOURS;
    }

    private static int within(long value, int least, int most) {
        return (int) Math.max(least, Math.min(most, value));
    }

    // The eight places, and which is behind which.
    private static final class Land {
        private static final int FIRST_WINS = 1;
        private static final int SECOND_WINS = 0;
        private static final int NOBODY_WINS = 2;
        // Any ring of at most eight places is gone through whole in so many times.
        private static final int WHOLE_RINGS = 840;

        private final int[] next = new int[PLACES];
        private final int[] joys = new int[PLACES];
        private final int[] verdicts = new int[PLACES];

        Land() {
            for (int place = 0; place < PLACES; place++) {
                next[place] = place;
            }
        }

        void copy(Land from) {
            System.arraycopy(from.next, 0, next, 0, PLACES);
            System.arraycopy(from.joys, 0, joys, 0, PLACES);
        }

        void tellNext(int place, int to) {
            if (isPlace(place) && isPlace(to)) {
                next[place] = to;
            }
        }

        void tellJoy(int place, int joy) {
            if (isPlace(place)) {
                joys[place] = joy;
            }
        }

        int nextOf(int place) {
            return isPlace(place) ? next[place] : 0;
        }

        int joyOf(int place) {
            return isPlace(place) ? joys[place] : 0;
        }

        int further(int place, int n) {
            if (!isPlace(place)) {
                return 0;
            }
            int times = n > PLACES ? PLACES + (n - PLACES) % WHOLE_RINGS : n;
            int at = place;
            for (int i = 0; i < times; i++) {
                at = next[at];
            }
            return at;
        }

        // 0 for a place that is in no ring.
        int ringLength(int place) {
            for (int n = 1; n <= PLACES; n++) {
                if (further(place, n) == place) {
                    return n;
                }
            }
            return 0;
        }

        int wayToRing(int place) {
            int way = 0;
            while (way < PLACES && ringLength(further(place, way)) == 0) {
                way++;
            }
            return way;
        }

        int countRings() {
            int count = 0;
            for (int place = 0; place < PLACES; place++) {
                if (isLowestOfRing(place)) {
                    count++;
                }
            }
            return count;
        }

        private boolean isLowestOfRing(int place) {
            int length = ringLength(place);
            for (int n = 1; n < length; n++) {
                if (further(place, n) < place) {
                    return false;
                }
            }
            return length > 0;
        }

        int placesLeft(int n) {
            int bits = 0;
            for (int place = 0; place < PLACES; place++) {
                bits |= 1 << further(place, n);
            }
            return bits;
        }

        int placesInto(int place) {
            int bits = 0;
            for (int from = 0; from < PLACES; from++) {
                if (next[from] == place) {
                    bits |= 1 << from;
                }
            }
            return bits;
        }

        // Whoever goes eight times or more has been in the place where they meet before.
        int meetingPart(int a, int b, int part) {
            for (int both = 0; both < 2 * PLACES; both++) {
                for (int first = 0; first <= both; first++) {
                    if (further(a, first) == further(b, both - first)) {
                        return part == 0 ? both : part == 1 ? first : both - first;
                    }
                }
            }
            return NONE;
        }

        int verdict(int place) {
            judge();
            return isPlace(place) ? verdicts[place] : NONE;
        }

        int winningMove(int place) {
            judge();
            return moveThatWins(place);
        }

        // What is still open when nothing more can be decided goes on for ever.
        private void judge() {
            Arrays.fill(verdicts, NOBODY_WINS);
            for (int round = 0; round < PLACES; round++) {
                for (int place = 0; place < PLACES; place++) {
                    verdicts[place] = judged(place);
                }
            }
        }

        private int judged(int place) {
            if (moveThatWins(place) != NONE) {
                return FIRST_WINS;
            }
            boolean lost = verdicts[further(place, 1)] == FIRST_WINS && verdicts[further(place, 2)] == FIRST_WINS;
            return lost ? SECOND_WINS : NOBODY_WINS;
        }

        private int moveThatWins(int place) {
            for (int times = 1; times <= 2; times++) {
                int to = further(place, times);
                if (to == 0 || verdicts[to] == SECOND_WINS) {
                    return times;
                }
            }
            return NONE;
        }
    }

    // The people, the hour, the luck and the book: all that steps change, in one row.
    private static final class Folk {
        static final int COUNT = 0;
        static final int HOUR = 1;
        static final int X = 2;
        static final int LINES = 3;
        static final int PEOPLE = 4;
        static final int BASE = 0;
        static final int DEPTH = 1;
        static final int CLOVES = 2;
        static final int SINCE = 3;
        static final int PARTS = 4;
        static final int BOOK = PEOPLE + MOST_PEOPLE * PARTS;
        static final int SIZE = BOOK + MOST_LINES;

        private static final int LINE_HOUR = 1000;
        private static final int LINE_PERSON = 100;
        private static final int LINE_WHAT = 10;

        private final int[] row = new int[SIZE];

        Folk() {
            row[X] = FIRST_X;
        }

        void copy(Folk from) {
            System.arraycopy(from.row, 0, row, 0, SIZE);
        }

        void writeTo(int[] rows, int start) {
            System.arraycopy(row, 0, rows, start, SIZE);
        }

        // People told since are nobody's step: they stay.
        void readFrom(int[] rows, int start) {
            int count = row[COUNT];
            int told = PEOPLE + rows[start + COUNT] * PARTS;
            System.arraycopy(rows, start, row, 0, told);
            System.arraycopy(rows, start + BOOK, row, BOOK, MOST_LINES);
            row[COUNT] = count;
        }

        int get(int field) {
            return field >= 0 && field < SIZE ? row[field] : 0;
        }

        boolean has(int person) {
            return person >= 0 && person < row[COUNT];
        }

        int part(int person, int part) {
            return has(person) ? row[at(person, part)] : 0;
        }

        private int at(int person, int part) {
            return PEOPLE + person * PARTS + part;
        }

        int tell(int place, int cloves) {
            int person = row[COUNT];
            if (person >= MOST_PEOPLE) {
                return NONE;
            }
            row[at(person, BASE)] = place;
            row[at(person, CLOVES)] = cloves;
            row[COUNT] = person + 1;
            return person;
        }

        int placeOf(int person, Land land) {
            return land.further(part(person, BASE), part(person, DEPTH));
        }

        int peopleAt(int place, Land land) {
            int bits = 0;
            for (int person = 0; person < row[COUNT]; person++) {
                if (land.further(part(person, BASE), part(person, DEPTH)) == place) {
                    bits |= 1 << person;
                }
            }
            return bits;
        }

        int total(int part) {
            int sum = 0;
            for (int person = 0; person < row[COUNT]; person++) {
                sum += part(person, part);
            }
            return sum;
        }

        int draw() {
            int x = row[X];
            row[X] = (x * 641 + 499) % 30893;
            return x;
        }

        void startLuck(int seed) {
            row[X] = seed * 2 + FIRST_X;
        }

        int goDeeper(int person, Land land) {
            if (!has(person)) {
                return NONE;
            }
            row[at(person, CLOVES)]--;
            row[at(person, DEPTH)]++;
            return arrive(person, BITTEN, land);
        }

        int comeUp(int person, Land land) {
            if (!has(person)) {
                return NONE;
            }
            row[at(person, DEPTH)]--;
            return arrive(person, COME_BACK, land);
        }

        void goOver(int person, int place, Land land) {
            if (has(person)) {
                row[at(person, BASE)] = place;
                arrive(person, WALKED, land);
            }
        }

        void addCloves(int person, int cloves) {
            if (has(person)) {
                row[at(person, CLOVES)] += cloves;
            }
        }

        void stay(int person) {
            if (has(person)) {
                row[at(person, SINCE)] = Math.min(MOST_SINCE, part(person, SINCE) + 1);
            }
        }

        void endHour() {
            row[HOUR]++;
        }

        private int arrive(int person, int what, Land land) {
            int place = placeOf(person, land);
            row[at(person, SINCE)] = 0;
            write(row[HOUR] * LINE_HOUR + person * LINE_PERSON + what * LINE_WHAT + place);
            return place;
        }

        private void write(int line) {
            if (row[LINES] == MOST_LINES) {
                System.arraycopy(row, BOOK + 1, row, BOOK, MOST_LINES - 1);
                row[LINES]--;
            }
            row[BOOK + row[LINES]] = line;
            row[LINES]++;
        }

        int linePart(int i, int what) {
            if (i < 0 || i >= row[LINES]) {
                return NO_SUCH;
            }
            int line = row[BOOK + i];
            switch (what) {
                case 0: return line / LINE_HOUR;
                case 1: return line / LINE_PERSON % 10;
                case 2: return line / LINE_WHAT % 10;
                case 3: return line % LINE_WHAT;
                default: return NO_SUCH;
            }
        }

        int linesOf(int what) {
            int count = 0;
            for (int i = 0; i < row[LINES]; i++) {
                if (linePart(i, 2) == what) {
                    count++;
                }
            }
            return count;
        }

        int deepestPerson() {
            int deepest = NONE;
            int most = 0;
            for (int person = 0; person < row[COUNT]; person++) {
                if (part(person, DEPTH) > most) {
                    most = part(person, DEPTH);
                    deepest = person;
                }
            }
            return deepest;
        }

        int peopleAway() {
            int bits = 0;
            for (int person = 0; person < row[COUNT]; person++) {
                if (part(person, DEPTH) > 0) {
                    bits |= 1 << person;
                }
            }
            return bits;
        }

        int peopleAlone(Land land) {
            int bits = 0;
            for (int person = 0; person < row[COUNT]; person++) {
                if (peopleAt(placeOf(person, land), land) == 1 << person) {
                    bits |= 1 << person;
                }
            }
            return bits;
        }

        int gladdestPerson(Land land) {
            int gladdest = NONE;
            int most = -MOST_JOY - 1;
            for (int person = 0; person < row[COUNT]; person++) {
                int joy = land.joyOf(placeOf(person, land));
                if (joy > most) {
                    most = joy;
                    gladdest = person;
                }
            }
            return gladdest;
        }
    }

    // How the folk was ahead of each of the latest steps.
    private static final class Steps {
        private final int[] rows = new int[MOST_STEPS * Folk.SIZE];
        private int next;
        private int count;

        void copy(Steps from) {
            System.arraycopy(from.rows, 0, rows, 0, rows.length);
            next = from.next;
            count = from.count;
        }

        int size() {
            return count;
        }

        void remember(Folk folk) {
            folk.writeTo(rows, next * Folk.SIZE);
            next = (next + 1) % MOST_STEPS;
            count = Math.min(MOST_STEPS, count + 1);
        }

        int takeBackFrom(Folk folk) {
            if (count == 0) {
                return NONE;
            }
            next = (next + MOST_STEPS - 1) % MOST_STEPS;
            count--;
            folk.readFrom(rows, next * Folk.SIZE);
            return count;
        }
    }

    // A text that was read: its laws as codes (null where it has none) and its clauses.
    private static final class Text {
        private final int[] bites;
        private final int[] returns;
        private final int[] clauses;

        Text(int[] bites, int[] returns, int[] clauses) {
            this.bites = bites;
            this.returns = returns;
            this.clauses = clauses;
        }

        int clauseCount() {
            return clauses.length / CLAUSE_SIZE;
        }

        int clausePart(int clause, int part) {
            int at = clause * CLAUSE_SIZE + part;
            return at >= 0 && at < clauses.length ? clauses[at] : 0;
        }
    }

    // The bytes that were fed, and the tokens they make.
    private static final class Tape {
        static final int END_OF_TAPE = 0;
        static final int NO_TOKEN = 1;
        static final int NUMBER = 2;
        static final int AT_MOST = 3;
        static final int AT_LEAST = 4;
        // A sign is a token of its own number, a word one by its place in the row of words.
        static final int FIRST_WORD = 128;
        static final int BITES = 128;
        static final int RETURNS = 129;
        static final int PERSON = 130;
        static final int BITE = 131;
        static final int COME = 132;
        static final int WALK = 133;
        static final int TO = 134;
        static final int BEHIND = 135;
        static final int DEEP = 136;
        static final int IF = 137;
        static final int THEN = 138;
        static final int ELSE = 139;
        static final int END = 140;
        static final int OR = 141;
        static final int AND = 142;
        static final int NOT = 143;
        static final int HOUR = 144;
        static final int PLACE = 145;
        static final int CLOVES = 146;
        static final int WHO = 147;
        static final int DEPTH = 148;
        static final int WITH = 149;
        static final int SINCE = 150;
        static final int JOY = 151;
        static final int FIRST_NAME = HOUR;
        static final int NAMES = 8;

        private static final int FED = 20;
        private static final String SIGNS = "<>=#+-*/();";
        private static final String WORDS = "bites returns person bite come walk to behind deep if then else end or and not hour place cloves who depth with since joy ";

        private final char[] bytes = new char[MOST_BYTES];
        private final int[] kinds = new int[MOST_BYTES + 1];
        private final int[] values = new int[MOST_BYTES + 1];
        private final int[] starts = new int[MOST_BYTES + 1];
        private int length;
        private int tokens;
        private int token;

        int length() {
            return length;
        }

        boolean hasRoom() {
            return length + FED <= MOST_BYTES;
        }

        void append(int word) {
            for (int shift = 24; shift >= 0; shift -= 8) {
                if (length < MOST_BYTES) {
                    bytes[length] = (char) (word >> shift & 255);
                    length++;
                }
            }
        }

        void cut(int n) {
            length = Math.max(0, Math.min(n, length));
        }

        // Of the token that is come to.
        int kind() {
            return token < tokens ? kinds[token] : END_OF_TAPE;
        }

        int value() {
            return token < tokens ? values[token] : 0;
        }

        int start() {
            return token < tokens ? starts[token] : length;
        }

        void advance() {
            token++;
        }

        void scan() {
            tokens = 0;
            token = 0;
            int at = 0;
            while (at < length) {
                int next = isBlank(bytes[at]) ? at + 1 : scanToken(at);
                at = Math.max(at + 1, next);
            }
        }

        private int scanToken(int from) {
            char first = bytes[from];
            int to = from + 1;
            if (isLetter(first)) {
                while (to < length && isLetter(bytes[to])) {
                    to++;
                }
                keep(wordKind(from, to), 0, from);
            } else if (isDigit(first)) {
                while (to < length && isDigit(bytes[to])) {
                    to++;
                }
                keep(NUMBER, numberFrom(from, to), from);
            } else if ((first == '<' || first == '>') && to < length && bytes[to] == '=') {
                to++;
                keep(first == '<' ? AT_MOST : AT_LEAST, 0, from);
            } else {
                keep(SIGNS.indexOf(first) >= 0 ? first : NO_TOKEN, 0, from);
            }
            return to;
        }

        private void keep(int kind, int value, int start) {
            if (tokens < MOST_BYTES) {
                kinds[tokens] = kind;
                values[tokens] = value;
                starts[tokens] = start;
                tokens++;
            }
        }

        // Beyond the highest number they are all alike.
        private int numberFrom(int from, int to) {
            int value = 0;
            for (int at = from; at < to; at++) {
                value = Math.min(MOST_NUMBER + 1, value * 10 + bytes[at] - '0');
            }
            return value;
        }

        private int wordKind(int from, int to) {
            int word = 0;
            int start = 0;
            for (int end = 0; end < WORDS.length(); end++) {
                if (WORDS.charAt(end) == ' ') {
                    if (end - start == to - from && isWord(start, from, end - start)) {
                        return FIRST_WORD + word;
                    }
                    word++;
                    start = end + 1;
                }
            }
            return NO_TOKEN;
        }

        private boolean isWord(int start, int from, int size) {
            for (int i = 0; i < size; i++) {
                if (WORDS.charAt(start + i) != bytes[from + i]) {
                    return false;
                }
            }
            return true;
        }

        private static boolean isBlank(char sign) {
            return sign == 32 || sign == 10;
        }

        private static boolean isLetter(char sign) {
            return sign >= 'a' && sign <= 'z' || sign >= 'A' && sign <= 'Z';
        }

        private static boolean isDigit(char sign) {
            return sign >= '0' && sign <= '9';
        }
    }

    // Reads the tape as a text: sums become codes that are worked off from the left, over a stack.
    private static final class Reader {
        // What codes have and tokens have not.
        static final int NEGATE = 5;
        static final int UNLESS = 6;
        static final int SKIP = 7;
        static final int CODE_STEP = 256;

        private static final int NOT_READ = -1;
        private static final int STRANGE = 1;
        private static final int WRONG_NUMBER = 2;
        private static final int TOO_DEEP = 3;
        private static final int SECOND_LAW = 4;
        private static final int WRONG_NAME = 5;
        private static final int TOO_MANY = 6;

        private final Tape tape;
        private final int[] code = new int[MOST_BYTES];
        private final int[] clauses = new int[MOST_CLAUSES * CLAUSE_SIZE];
        private int[] bites;
        private int[] returns;
        private int size;
        private int clauseCount;
        private int clauseKind;
        private int fault = NOT_READ;
        private int faultPlace = NONE;

        Reader(Tape tape) {
            this.tape = tape;
        }

        int faultPart(int what) {
            if (fault == NOT_READ) {
                return NONE;
            }
            return what == 0 ? fault : what == 1 ? faultPlace : NONE;
        }

        boolean reads() {
            tape.scan();
            bites = null;
            returns = null;
            clauseCount = 0;
            fault = 0;
            for (int i = 0; i <= MOST_CLAUSES && fault == 0 && tape.kind() != Tape.END_OF_TAPE; i++) {
                readClause();
            }
            // Behind a fault nothing goes on, so the tape is still where it was found.
            faultPlace = fault == 0 ? NONE : tape.start();
            return fault == 0;
        }

        Text result() {
            return new Text(bites, returns, Arrays.copyOf(clauses, clauseCount * CLAUSE_SIZE));
        }

        private void fail(int what) {
            if (fault == 0) {
                fault = what;
            }
        }

        private void expect(int kind) {
            if (fault == 0 && tape.kind() == kind) {
                tape.advance();
            } else {
                fail(STRANGE);
            }
        }

        private int readNumber(int least, int most) {
            int value = tape.value();
            if (fault == 0 && tape.kind() == Tape.NUMBER && (value < least || value > most)) {
                fail(WRONG_NUMBER);
            }
            expect(Tape.NUMBER);
            return value;
        }

        private int emit(int sign, int much) {
            if (fault == 0 && size < MOST_BYTES) {
                code[size] = sign + CODE_STEP * much;
                size++;
            }
            return size - 1;
        }

        private void leadHere(int hole) {
            if (fault == 0 && hole >= 0 && hole < size) {
                code[hole] += CODE_STEP * size;
            }
        }

        private void readClause() {
            clauseKind = tape.kind();
            boolean second = clauseKind == Tape.BITES && bites != null || clauseKind == Tape.RETURNS && returns != null;
            if (!startsClause()) {
                fail(STRANGE);
            } else if (second) {
                fail(SECOND_LAW);
            } else if (clauseCount == MOST_CLAUSES) {
                fail(TOO_MANY);
            } else {
                tape.advance();
                if (clauseKind == Tape.BITES || clauseKind == Tape.RETURNS) {
                    readLaw();
                } else {
                    readDeed();
                }
            }
        }

        private boolean startsClause() {
            switch (clauseKind) {
                case Tape.BITES:
                case Tape.RETURNS:
                case Tape.PERSON:
                case Tape.PLACE:
                case Tape.BITE:
                case Tape.COME:
                case Tape.WALK:
                case Tape.HOUR:
                    return true;
                default:
                    return false;
            }
        }

        private void readLaw() {
            size = 0;
            readSum(0);
            expect(';');
            if (fault == 0) {
                int[] law = Arrays.copyOf(code, size);
                if (clauseKind == Tape.BITES) {
                    bites = law;
                } else {
                    returns = law;
                }
                keepClause(0, 0);
            }
        }

        private void readDeed() {
            int first;
            int second = 0;
            switch (clauseKind) {
                case Tape.PERSON:
                    first = readNumber(0, PLACES - 1);
                    expect(Tape.CLOVES);
                    second = readNumber(0, MOST_CLOVES);
                    break;
                case Tape.PLACE:
                    first = readNumber(0, PLACES - 1);
                    expect(Tape.BEHIND);
                    second = readNumber(0, PLACES - 1);
                    break;
                case Tape.WALK:
                    first = readNumber(0, MOST_PEOPLE - 1);
                    expect(Tape.TO);
                    second = readNumber(0, PLACES - 1);
                    break;
                case Tape.HOUR:
                    first = readNumber(1, MOST_HOURS);
                    break;
                default:
                    first = readNumber(0, MOST_PEOPLE - 1);
                    break;
            }
            expect(';');
            keepClause(first, second);
        }

        private void keepClause(int first, int second) {
            if (fault == 0 && clauseCount < MOST_CLAUSES) {
                int start = clauseCount * CLAUSE_SIZE;
                clauses[start] = clauseKind;
                clauses[start + 1] = first;
                clauses[start + 2] = second;
                clauseCount++;
            }
        }

        private void readSum(int open) {
            readProduct(open);
            for (int i = 0; i < MOST_BYTES && fault == 0 && (tape.kind() == '+' || tape.kind() == '-'); i++) {
                int sign = tape.kind();
                tape.advance();
                readProduct(open);
                emit(sign, 0);
            }
        }

        private void readProduct(int open) {
            readOne(open);
            for (int i = 0; i < MOST_BYTES && fault == 0 && (tape.kind() == '*' || tape.kind() == '/'); i++) {
                int sign = tape.kind();
                tape.advance();
                readOne(open);
                emit(sign, 0);
            }
        }

        private void readOne(int open) {
            int first = tape.kind();
            if (fault != 0) {
                return;
            }
            if (first == Tape.NUMBER) {
                emit(Tape.NUMBER, readNumber(0, MOST_NUMBER));
            } else if (first >= Tape.FIRST_NAME && first < Tape.FIRST_NAME + Tape.NAMES) {
                readName(first);
            } else if (!opensOne(first)) {
                fail(STRANGE);
            } else if (open >= MOST_OPEN) {
                fail(TOO_DEEP);
            } else {
                tape.advance();
                readOpened(first, open + 1);
            }
        }

        private static boolean opensOne(int kind) {
            return kind == '(' || kind == '-' || kind == Tape.BEHIND || kind == Tape.DEEP || kind == Tape.IF;
        }

        private void readName(int name) {
            if (name == Tape.SINCE && clauseKind == Tape.BITES || name == Tape.JOY && clauseKind == Tape.RETURNS) {
                fail(WRONG_NAME);
            }
            emit(name, 0);
            expect(name);
        }

        private void readOpened(int first, int open) {
            if (first == '(') {
                readSum(open);
                expect(')');
            } else if (first == Tape.IF) {
                readChoice(open);
            } else {
                readOne(open);
                emit(first == '-' ? NEGATE : first, 0);
            }
        }

        private void readChoice(int open) {
            readEither(open);
            expect(Tape.THEN);
            int past = emit(UNLESS, 0);
            readSum(open);
            expect(Tape.ELSE);
            int out = emit(SKIP, 0);
            leadHere(past);
            readSum(open);
            expect(Tape.END);
            leadHere(out);
        }

        private void readEither(int open) {
            readBoth(open);
            for (int i = 0; i < MOST_BYTES && fault == 0 && tape.kind() == Tape.OR; i++) {
                tape.advance();
                readBoth(open);
                emit(Tape.OR, 0);
            }
        }

        private void readBoth(int open) {
            readAsk(open);
            for (int i = 0; i < MOST_BYTES && fault == 0 && tape.kind() == Tape.AND; i++) {
                tape.advance();
                readAsk(open);
                emit(Tape.AND, 0);
            }
        }

        private void readAsk(int open) {
            if (fault == 0 && tape.kind() == Tape.NOT) {
                if (open >= MOST_OPEN) {
                    fail(TOO_DEEP);
                } else {
                    tape.advance();
                    readAsk(open + 1);
                    emit(Tape.NOT, 0);
                }
            } else {
                readComparison(open);
            }
        }

        private void readComparison(int open) {
            readSum(open);
            int sign = tape.kind();
            if (fault == 0 && compares(sign)) {
                tape.advance();
                readSum(open);
                emit(sign, 0);
            } else {
                fail(STRANGE);
            }
        }

        private static boolean compares(int kind) {
            return kind == '<' || kind == '>' || kind == '=' || kind == '#' || kind == Tape.AT_MOST || kind == Tape.AT_LEAST;
        }
    }

    // Works off the codes of laws for one of the people.
    private static final class Asker {
        private final int[] known = new int[Tape.NAMES];
        private final int[] stack = new int[MOST_BYTES];
        private int top;

        int bitesOf(Text text, Folk folk, Land land, int person) {
            if (text == null || text.bites == null) {
                return PLAIN_BITES;
            }
            learn(folk, land, person);
            return within(work(text.bites, folk, land), -MOST_BITES, MOST_BITES);
        }

        int returnsOf(Text text, Folk folk, Land land, int person) {
            if (text == null || text.returns == null) {
                return within(PLAIN_RETURNS + folk.part(person, Folk.DEPTH), 0, MOST_RETURNS);
            }
            learn(folk, land, person);
            return within(work(text.returns, folk, land), 0, MOST_RETURNS);
        }

        private void learn(Folk folk, Land land, int person) {
            int place = folk.placeOf(person, land);
            know(Tape.HOUR, folk.get(Folk.HOUR));
            know(Tape.PLACE, place);
            know(Tape.CLOVES, folk.part(person, Folk.CLOVES));
            know(Tape.WHO, person);
            know(Tape.DEPTH, folk.part(person, Folk.DEPTH));
            know(Tape.WITH, Integer.bitCount(folk.peopleAt(place, land)) - 1);
            know(Tape.SINCE, folk.part(person, Folk.SINCE));
            know(Tape.JOY, land.joyOf(land.nextOf(place)));
        }

        private void know(int name, int value) {
            known[name - Tape.FIRST_NAME] = value;
        }

        // Codes lead forward alone, so each is come to at most once.
        private int work(int[] code, Folk folk, Land land) {
            top = 0;
            for (int at = 0; at < code.length; at++) {
                int sign = code[at] % Reader.CODE_STEP;
                int much = code[at] / Reader.CODE_STEP;
                if (sign == Tape.NUMBER) {
                    push(much);
                } else if (sign >= Tape.FIRST_NAME && sign < Tape.FIRST_NAME + Tape.NAMES) {
                    push(known[sign - Tape.FIRST_NAME]);
                } else if (sign == Reader.SKIP) {
                    at = Math.max(at, much - 1);
                } else if (sign == Reader.UNLESS) {
                    at = pop() == 0 ? Math.max(at, much - 1) : at;
                } else if (isOfOne(sign)) {
                    push(ofOne(sign, pop(), folk, land));
                } else {
                    int right = pop();
                    int left = pop();
                    push(ofTwo(sign, left, right));
                }
            }
            return pop();
        }

        private void push(int value) {
            if (top < MOST_BYTES) {
                stack[top] = value;
                top++;
            }
        }

        private int pop() {
            if (top == 0) {
                return 0;
            }
            top--;
            return stack[top];
        }

        private static boolean isOfOne(int sign) {
            return sign == Reader.NEGATE || sign == Tape.NOT || sign == Tape.BEHIND || sign == Tape.DEEP;
        }

        private static int ofOne(int sign, int value, Folk folk, Land land) {
            switch (sign) {
                case Reader.NEGATE: return -value;
                case Tape.NOT: return truth(value == 0);
                case Tape.BEHIND: return land.nextOf(value);
                default: return folk.part(value, Folk.DEPTH);
            }
        }

        private static int ofTwo(int sign, int left, int right) {
            switch (sign) {
                case '+': return within((long) left + right, -MOST_VALUE, MOST_VALUE);
                case '-': return within((long) left - right, -MOST_VALUE, MOST_VALUE);
                case '*': return within((long) left * right, -MOST_VALUE, MOST_VALUE);
                case '/': return right == 0 ? 0 : left / right;
                case '<': return truth(left < right);
                case '>': return truth(left > right);
                case '=': return truth(left == right);
                case '#': return truth(left != right);
                case Tape.AT_MOST: return truth(left <= right);
                case Tape.AT_LEAST: return truth(left >= right);
                case Tape.OR: return left | right;
                default: return left & right;
            }
        }

        private static int truth(boolean is) {
            return is ? 1 : 0;
        }
    }

    // A day of hours: what is to be missed in it and what is not, as bits of hours.
    private static final class Day {
        static final int DOINGS = 0;
        static final int MEETINGS = 1;
        private static final int KINDS = 2;

        private final int[] hoursOf = new int[KINDS];
        private final int[] counts = new int[KINDS];
        private final int[] fewest = new int[DAY_HOURS + 1];

        void copy(Day from) {
            System.arraycopy(from.hoursOf, 0, hoursOf, 0, KINDS);
            System.arraycopy(from.counts, 0, counts, 0, KINDS);
        }

        int countOf(int kind) {
            return kind >= 0 && kind < KINDS ? counts[kind] : 0;
        }

        int tell(int kind, int from, int to) {
            if (kind < 0 || kind >= KINDS) {
                return NO_SUCH;
            }
            if (from == NONE) {
                hoursOf[kind] = 0;
                counts[kind] = 0;
                return 0;
            }
            if (!isSpan(from, to) || counts[kind] == MOST_DUTIES) {
                return NO_SUCH;
            }
            hoursOf[kind] |= span(from, to);
            counts[kind]++;
            return counts[kind];
        }

        private static boolean isSpan(int from, int to) {
            return from >= 0 && from <= to && to < DAY_HOURS;
        }

        private static int span(int from, int to) {
            return (1 << to + 1) - (1 << from);
        }

        int planPart(int hours, int i) {
            count(hours);
            int bites = fewest[0];
            if (bites == NONE || i < NONE || i >= bites) {
                return NO_SUCH;
            }
            return i == NONE ? bites : hourOfBite(hours, i);
        }

        int fewestNeeded() {
            for (int hours = 1; hours <= DAY_HOURS; hours++) {
                count(hours);
                if (fewest[0] != NONE) {
                    return hours;
                }
            }
            return NONE;
        }

        int mostNeeded() {
            for (int hours = DAY_HOURS; hours > 0; hours--) {
                count(hours);
                if (fewest[0] != NONE) {
                    return hours;
                }
            }
            return NONE;
        }

        // The fewest bites from each hour to the day's end, when one is there in its beginning.
        private void count(int hours) {
            fewest[DAY_HOURS] = 0;
            for (int hour = DAY_HOURS - 1; hour >= 0; hour--) {
                int staying = (hoursOf[DOINGS] >> hour & 1) == 0 ? fewest[hour + 1] : NONE;
                int biting = withBite(hour, hours);
                boolean bites = biting != NONE && (staying == NONE || biting < staying);
                fewest[hour] = bites ? biting : staying;
            }
        }

        private int withBite(int hour, int hours) {
            int back = Math.min(DAY_HOURS, hour + hours);
            if ((span(hour, back - 1) & hoursOf[MEETINGS]) != 0 || fewest[back] == NONE) {
                return NONE;
            }
            return fewest[back] + 1;
        }

        private int hourOfBite(int hours, int i) {
            int hour = 0;
            int bitten = 0;
            while (hour < DAY_HOURS) {
                if (withBite(hour, hours) == fewest[hour]) {
                    if (bitten == i) {
                        return hour;
                    }
                    bitten++;
                    hour = Math.min(DAY_HOURS, hour + Math.max(1, hours));
                } else {
                    hour++;
                }
            }
            return NO_SUCH;
        }
    }

    // The entries, and the laws by which each is what the ones ahead of it make by seven.
    private static final class Ledger {
        private static final int WIDTH = MOST_FACTORS + 1;
        // What makes 1 together with each of 0 .. 6, by seven.
        private static final int[] INVERSES = {0, 1, 4, 5, 2, 3, 6};

        private final int[] entries = new int[MOST_ENTRIES];
        private final int[] rows = new int[MOST_ENTRIES * WIDTH];
        private final int[] factors = new int[MOST_FACTORS + 1];
        private int count;
        private int rowCount;

        void copy(Ledger from) {
            System.arraycopy(from.entries, 0, entries, 0, MOST_ENTRIES);
            count = from.count;
        }

        int count() {
            return count;
        }

        int tell(int value) {
            if (value == NONE) {
                count = 0;
                return 0;
            }
            if (value < 0 || value >= SEVEN || count == MOST_ENTRIES) {
                return NO_SUCH;
            }
            entries[count] = value;
            count++;
            return count;
        }

        int lawPart(int what) {
            int length = leastLength();
            if (length == NONE) {
                return NONE;
            }
            if (what == 0) {
                return length;
            }
            if (what == MOST_FACTORS + 1) {
                return nextEntry(length);
            }
            return what > 0 && what <= length ? factors[what] : NONE;
        }

        int lawsOf(int length) {
            int free = solve(length);
            if (free == NONE) {
                return 0;
            }
            int laws = 1;
            for (int i = 0; i < free; i++) {
                laws *= SEVEN;
            }
            return laws;
        }

        private int leastLength() {
            for (int length = 0; length <= MOST_FACTORS && length <= count; length++) {
                if (solve(length) != NONE) {
                    return length;
                }
            }
            return NONE;
        }

        private int nextEntry(int length) {
            int sum = 0;
            for (int ahead = 1; ahead <= length && ahead <= count; ahead++) {
                sum += factors[ahead] * entries[count - ahead];
            }
            return sum % SEVEN;
        }

        // How many factors are free (NONE: there is no law). The farthest factor has the first
        // column, so that each bound one hangs on nearer ones alone: with all free ones 0 the
        // nearest are as low as can be.
        private int solve(int length) {
            fillRows(length);
            Arrays.fill(factors, 0);
            int bound = 0;
            for (int column = 0; column < length; column++) {
                if (clearColumn(column, bound, length)) {
                    bound++;
                }
            }
            for (int row = bound; row < rowCount; row++) {
                if (rows[row * WIDTH + length] != 0) {
                    return NONE;
                }
            }
            readFactors(bound, length);
            return length - bound;
        }

        private void fillRows(int length) {
            rowCount = Math.max(0, count - length);
            for (int row = 0; row < rowCount; row++) {
                for (int column = 0; column <= length; column++) {
                    rows[row * WIDTH + column] = entries[row + column];
                }
            }
        }

        private boolean clearColumn(int column, int bound, int length) {
            int pivot = bound;
            while (pivot < rowCount && rows[pivot * WIDTH + column] == 0) {
                pivot++;
            }
            if (pivot >= rowCount) {
                return false;
            }
            swap(pivot, bound, length);
            int inverse = INVERSES[rows[bound * WIDTH + column] % SEVEN];
            for (int i = 0; i <= length; i++) {
                rows[bound * WIDTH + i] = rows[bound * WIDTH + i] * inverse % SEVEN;
            }
            for (int row = 0; row < rowCount; row++) {
                if (row != bound) {
                    subtract(row, bound, rows[row * WIDTH + column], length);
                }
            }
            return true;
        }

        private void swap(int one, int other, int length) {
            for (int i = 0; i <= length; i++) {
                int value = rows[one * WIDTH + i];
                rows[one * WIDTH + i] = rows[other * WIDTH + i];
                rows[other * WIDTH + i] = value;
            }
        }

        private void subtract(int row, int from, int times, int length) {
            for (int i = 0; i <= length; i++) {
                int value = rows[row * WIDTH + i] + (SEVEN - times) * rows[from * WIDTH + i];
                rows[row * WIDTH + i] = value % SEVEN;
            }
        }

        private void readFactors(int bound, int length) {
            for (int row = 0; row < bound; row++) {
                int column = 0;
                while (column < length && rows[row * WIDTH + column] == 0) {
                    column++;
                }
                if (column < length) {
                    factors[length - column] = rows[row * WIDTH + length];
                }
            }
        }
    }

    // What hours ahead are worth, and what is likely in them.
    private static final class Outlook {
        private static final int STAY = 0;
        private static final int BITE = 1;
        private static final int BACK = 2;
        private static final int DEPTHS = MOST_DEPTH + 1;
        private static final int STOCKS = MOST_AHEAD + 1;
        private static final int TENTHS = 10;

        private final int[] joys = new int[DEPTHS];
        private final int[] worths = new int[DEPTHS * STOCKS];
        private final int[] worthsBehind = new int[DEPTHS * STOCKS];
        private final long[] chances = new long[DEPTHS];
        private int depth;
        private int stock;

        // More cloves than hours are no better than as many.
        void weigh(Folk folk, Land land, int person, int hours) {
            depth = within(folk.part(person, Folk.DEPTH), 0, MOST_DEPTH);
            stock = within(folk.part(person, Folk.CLOVES), 0, MOST_AHEAD);
            for (int i = 0; i < DEPTHS; i++) {
                joys[i] = land.joyOf(land.further(folk.part(person, Folk.BASE), i));
            }
            Arrays.fill(worths, 0);
            for (int hour = 0; hour < hours; hour++) {
                System.arraycopy(worths, 0, worthsBehind, 0, worths.length);
                for (int i = 0; i < worths.length; i++) {
                    worths[i] = bestWorth(i / STOCKS, i % STOCKS);
                }
            }
        }

        int worthHere() {
            return worths[depth * STOCKS + stock];
        }

        // Of one hour more than was weighed.
        int firstChoice() {
            System.arraycopy(worths, 0, worthsBehind, 0, worths.length);
            int most = bestWorth(depth, stock);
            int choice = STAY;
            while (choice < BACK && worthOf(choice, depth, stock) != most) {
                choice++;
            }
            return choice;
        }

        private int bestWorth(int deep, int cloves) {
            int most = worthOf(STAY, deep, cloves);
            most = Math.max(most, worthOf(BITE, deep, cloves));
            return Math.max(most, worthOf(BACK, deep, cloves));
        }

        private int worthOf(int choice, int deep, int cloves) {
            int to = deep;
            int left = cloves;
            if (choice == BITE) {
                to++;
                left--;
            } else if (choice == BACK) {
                to--;
            }
            boolean can = to >= 0 && to < DEPTHS && left >= 0;
            return can ? joys[to] + worthsBehind[to * STOCKS + left] : NO_WORTH;
        }

        long chancePart(int from, int returns, int hours, int to, boolean low) {
            if (from < 0 || from >= DEPTHS || to < 0 || to >= DEPTHS) {
                return NONE;
            }
            Arrays.fill(chances, 0);
            chances[from] = 1;
            long all = 1;
            for (int hour = 0; hour < hours; hour++) {
                spread(returns);
                all *= TENTHS;
            }
            long shared = commonFactor(all, chances[to]);
            return (low ? all : chances[to]) / Math.max(1, shared);
        }

        private void spread(int returns) {
            chances[0] = chances[0] * TENTHS + chances[1] * returns;
            for (int i = 1; i < DEPTHS; i++) {
                long falling = i < MOST_DEPTH ? chances[i + 1] * returns : 0;
                chances[i] = chances[i] * (TENTHS - returns) + falling;
            }
        }

        int hoursPart(int from, int returns, boolean low) {
            if (from == 0) {
                return low ? 1 : 0;
            }
            if (returns == 0) {
                return NONE;
            }
            long shared = Math.max(1, commonFactor(from * TENTHS, returns));
            return (int) ((low ? returns : from * TENTHS) / shared);
        }

        private static long commonFactor(long one, long other) {
            long a = one;
            long b = other;
            for (int i = 0; i < 100 && b != 0; i++) {
                long rest = a % b;
                a = b;
                b = rest;
            }
            return a;
        }
    }

    // All that is told and done: what an image keeps.
    private static final class World {
        private final Land land = new Land();
        private final Folk folk = new Folk();
        private final Day day = new Day();
        private final Ledger ledger = new Ledger();
        private final Steps steps = new Steps();
        private final Text[] texts = new Text[MOST_TEXTS];
        private final int[] saidWho = new int[MOST_SAID];
        private final int[] saidReturns = new int[MOST_SAID];
        private final Asker asker;
        private int textCount;
        private int ruling = NONE;
        private int saidCount;

        World(Asker asker) {
            this.asker = asker;
        }

        void copy(World from) {
            land.copy(from.land);
            folk.copy(from.folk);
            day.copy(from.day);
            ledger.copy(from.ledger);
            steps.copy(from.steps);
            for (int i = 0; i < MOST_TEXTS; i++) {
                texts[i] = from.texts[i];
            }
            System.arraycopy(from.saidWho, 0, saidWho, 0, MOST_SAID);
            System.arraycopy(from.saidReturns, 0, saidReturns, 0, MOST_SAID);
            textCount = from.textCount;
            ruling = from.ruling;
            saidCount = from.saidCount;
        }

        int textCount() {
            return textCount;
        }

        int ruling() {
            return ruling;
        }

        int saidCount() {
            return saidCount;
        }

        int stepCount() {
            return steps.size();
        }

        boolean hasText(int text) {
            return text >= 0 && text < textCount;
        }

        int keepText(Text text) {
            if (textCount >= MOST_TEXTS) {
                return NONE;
            }
            texts[textCount] = text;
            textCount++;
            return textCount - 1;
        }

        void rule(int text) {
            ruling = text;
        }

        Text textOf(int text) {
            return hasText(text) ? texts[text] : null;
        }

        int bitesNow(int person) {
            return asker.bitesOf(textOf(ruling), folk, land, person);
        }

        int returnsNow(int person) {
            return asker.returnsOf(textOf(ruling), folk, land, person);
        }

        int takeBack() {
            return steps.takeBackFrom(folk);
        }

        private void beginStep(boolean isStep) {
            if (isStep) {
                steps.remember(folk);
            }
        }

        int bitten(int person, boolean isStep) {
            if (folk.part(person, Folk.CLOVES) == 0 || folk.part(person, Folk.DEPTH) >= MOST_DEPTH) {
                return NONE;
            }
            if (asker.bitesOf(textOf(ruling), folk, land, person) <= 0) {
                return NONE;
            }
            beginStep(isStep);
            return folk.goDeeper(person, land);
        }

        int comeBack(int person, boolean isStep) {
            if (folk.part(person, Folk.DEPTH) == 0) {
                return NONE;
            }
            beginStep(isStep);
            return folk.comeUp(person, land);
        }

        boolean walked(int person, int place, boolean isStep) {
            if (!folk.has(person) || folk.part(person, Folk.DEPTH) > 0) {
                return false;
            }
            if (!isPlace(place) || folk.part(person, Folk.BASE) == place) {
                return false;
            }
            beginStep(isStep);
            folk.goOver(person, place, land);
            return true;
        }

        boolean bought(int person, int cloves) {
            if (!folk.has(person) || cloves < 1 || cloves > MOST_CLOVES - folk.part(person, Folk.CLOVES)) {
                return false;
            }
            beginStep(true);
            folk.addCloves(person, cloves);
            return true;
        }

        // How many come back in the hour, or NONE when none can pass.
        int passHour(Folk people, boolean isStep) {
            if (people.get(Folk.HOUR) >= LAST_HOUR) {
                return NONE;
            }
            beginStep(isStep);
            int times = 0;
            for (int person = 0; person < people.get(Folk.COUNT); person++) {
                boolean isAway = people.part(person, Folk.DEPTH) > 0;
                if (isAway && people.draw() % 10 < asker.returnsOf(textOf(ruling), people, land, person)) {
                    people.comeUp(person, land);
                    times++;
                } else {
                    people.stay(person);
                }
            }
            people.endHour();
            return times;
        }

        void beginYears(int seed) {
            beginStep(true);
            folk.startLuck(seed);
        }

        void liveOn() {
            int x = folk.draw();
            int what = x % 6;
            int people = folk.get(Folk.COUNT);
            if (what > 3) {
                passHour(folk, false);
                return;
            }
            if (people == 0) {
                return;
            }
            int person = x / 6 % people;
            if (what < 2) {
                bitten(person, false);
            } else if (what == 2) {
                comeBack(person, false);
            } else {
                walked(person, x % PLACES, false);
            }
        }

        boolean runClause(Text text, int clause) {
            int first = text.clausePart(clause, 1);
            int second = text.clausePart(clause, 2);
            int passed = 0;
            switch (text.clausePart(clause, 0)) {
                case Tape.PERSON:
                    return folk.tell(first, second) != NONE;
                case Tape.PLACE:
                    land.tellNext(second, first);
                    return true;
                case Tape.BITE:
                    return bitten(first, true) != NONE;
                case Tape.COME:
                    return comeBack(first, true) != NONE;
                case Tape.WALK:
                    return walked(first, second, true);
                case Tape.HOUR:
                    while (passed < first && passHour(folk, true) != NONE) {
                        passed++;
                    }
                    return passed == first;
                default:
                    return true;
            }
        }

        int say(int person, int returns) {
            if (person == NONE) {
                saidCount = 0;
                return 0;
            }
            if (!folk.has(person) || returns < 0 || returns > MOST_RETURNS || saidCount == MOST_SAID) {
                return NO_SUCH;
            }
            saidWho[saidCount] = person;
            saidReturns[saidCount] = returns;
            saidCount++;
            return saidCount;
        }

        int textsAsSaid() {
            int bits = 0;
            for (int text = 0; text < textCount; text++) {
                if (isAsSaid(textOf(text))) {
                    bits |= 1 << text;
                }
            }
            return bits;
        }

        private boolean isAsSaid(Text text) {
            for (int i = 0; i < saidCount; i++) {
                if (asker.returnsOf(text, folk, land, saidWho[i]) != saidReturns[i]) {
                    return false;
                }
            }
            return true;
        }
    }
}
