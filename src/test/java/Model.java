import java.util.ArrayList;
import java.util.HashMap;
import java.util.HashSet;
import java.util.List;
import java.util.Map;
import java.util.Set;

// A second, slow reading of the document: it says what FarSide's answers must be in long random runs.
final class Model {
    static final class Person {
        int base;
        int depth;
        int cloves;
        int since;

        Person copy() {
            Person other = new Person();
            other.base = base;
            other.depth = depth;
            other.cloves = cloves;
            other.since = since;
            return other;
        }
    }

    static final class State {
        int[] behind = {0, 1, 2, 3, 4, 5, 6, 7};
        int[] joy = new int[8];
        List<Person> people = new ArrayList<>();
        int hour;
        int x = 383;
        List<int[]> book = new ArrayList<>();
        List<State> steps = new ArrayList<>();
        List<ModelText> texts = new ArrayList<>();
        int ruling = -1;
        List<int[]> doings = new ArrayList<>();
        List<int[]> meetings = new ArrayList<>();
        List<Integer> entries = new ArrayList<>();
        List<int[]> said = new ArrayList<>();

        State copy() {
            State other = new State();
            other.behind = behind.clone();
            other.joy = joy.clone();
            for (Person one : people) {
                other.people.add(one.copy());
            }
            other.hour = hour;
            other.x = x;
            other.book.addAll(book);
            other.steps.addAll(steps);
            other.texts.addAll(texts);
            other.ruling = ruling;
            other.doings.addAll(doings);
            other.meetings.addAll(meetings);
            other.entries.addAll(entries);
            other.said.addAll(said);
            return other;
        }
    }

    State s = new State();
    private State image = s.copy();
    private final StringBuilder tape = new StringBuilder();
    private int fault = -1;
    private int faultPlace = -1;

    private static boolean in(int value, int least, int most) {
        return value >= least && value <= most;
    }

    private boolean known(int person) {
        return in(person, 0, s.people.size() - 1);
    }

    private int go(int place, int times) {
        int at = place;
        for (int i = 0; i < times; i++) {
            at = s.behind[at];
        }
        return at;
    }

    private int placeOf(int person) {
        return go(s.people.get(person).base, s.people.get(person).depth);
    }

    long law(boolean bites, ModelText text, int person) {
        Person one = s.people.get(person);
        ModelText.Sum sum = text == null ? null : bites ? text.bites : text.returns;
        if (sum == null) {
            return bites ? 1 : Math.min(10, 2 + one.depth);
        }
        Map<String, Long> names = new HashMap<>();
        int with = -1;
        for (int other = 0; other < s.people.size(); other++) {
            with += placeOf(other) == placeOf(person) ? 1 : 0;
        }
        names.put("hour", (long) s.hour);
        names.put("who", (long) person);
        names.put("place", (long) placeOf(person));
        names.put("depth", (long) one.depth);
        names.put("cloves", (long) one.cloves);
        names.put("with", (long) with);
        names.put("since", (long) one.since);
        names.put("joy", (long) s.joy[s.behind[placeOf(person)]]);
        ModelText.Asked asked = new ModelText.Asked(names, s.behind, s.people);
        long value = sum.of(asked);
        return bites ? Math.max(-99, Math.min(99, value)) : Math.max(0, Math.min(10, value));
    }

    private ModelText ruling() {
        return s.ruling < 0 ? null : s.texts.get(s.ruling);
    }

    private void step() {
        State before = s.copy();
        before.steps.clear();
        s.steps.add(before);
        if (s.steps.size() > 30) {
            s.steps.remove(0);
        }
    }

    private int written(int person, int what) {
        s.people.get(person).since = 0;
        s.book.add(new int[] {s.hour, person, what, placeOf(person)});
        if (s.book.size() > 30) {
            s.book.remove(0);
        }
        return placeOf(person);
    }

    private boolean canBite(int person) {
        if (!known(person)) {
            return false;
        }
        Person one = s.people.get(person);
        return one.cloves > 0 && one.depth < 8 && law(true, ruling(), person) > 0;
    }

    private int doBite(int person) {
        s.people.get(person).cloves--;
        s.people.get(person).depth++;
        return written(person, 0);
    }

    private boolean canCome(int person) {
        return known(person) && s.people.get(person).depth > 0;
    }

    private int doCome(int person) {
        s.people.get(person).depth--;
        return written(person, 1);
    }

    private boolean canWalk(int person, int place) {
        return known(person) && in(place, 0, 7) && s.people.get(person).depth == 0 && s.people.get(person).base != place;
    }

    private void doWalk(int person, int place) {
        s.people.get(person).base = place;
        written(person, 2);
    }

    private int draw() {
        int x = s.x;
        s.x = (x * 641 + 499) % 30893;
        return x;
    }

    private int doHour() {
        int times = 0;
        for (int person = 0; person < s.people.size(); person++) {
            Person one = s.people.get(person);
            if (one.depth > 0) {
                long returns = law(false, ruling(), person);
                if (draw() % 10 < returns) {
                    doCome(person);
                    times++;
                    continue;
                }
            }
            one.since = Math.min(99, one.since + 1);
        }
        s.hour++;
        return times;
    }

    int person(int place, int cloves) {
        if (!in(place, 0, 7) || !in(cloves, 0, 99) || s.people.size() == 5) {
            return -1;
        }
        Person one = new Person();
        one.base = place;
        one.cloves = cloves;
        s.people.add(one);
        return s.people.size() - 1;
    }

    boolean behind(int place, int to) {
        if (!in(place, 0, 7) || !in(to, 0, 7)) {
            return false;
        }
        s.behind[place] = to;
        return true;
    }

    boolean joy(int place, int joy) {
        if (!in(place, 0, 7) || !in(joy, -9, 9)) {
            return false;
        }
        s.joy[place] = joy;
        return true;
    }

    int feed(int... words) {
        if (tape.length() > 280) {
            return -1;
        }
        for (int word : words) {
            for (int i = 3; i >= 0; i--) {
                tape.append((char) ((word >>> (8 * i)) & 255));
            }
        }
        return tape.length();
    }

    int end(int n) {
        if (!in(n, 0, tape.length())) {
            return -1;
        }
        tape.setLength(n);
        return n;
    }

    int text() {
        if (s.texts.size() == 4) {
            return -1;
        }
        ModelText text = new ModelText(tape.toString());
        tape.setLength(0);
        fault = text.fault;
        faultPlace = text.faultPlace;
        if (fault != 0) {
            return -1;
        }
        s.texts.add(text);
        return s.texts.size() - 1;
    }

    int fault(int what) {
        return fault < 0 ? -1 : what == 0 ? fault : what == 1 ? faultPlace : -1;
    }

    boolean by(int text) {
        if (!in(text, -1, s.texts.size() - 1)) {
            return false;
        }
        s.ruling = text;
        return true;
    }

    int bite(int person) {
        if (!canBite(person)) {
            return -1;
        }
        step();
        return doBite(person);
    }

    int come(int person) {
        if (!canCome(person)) {
            return -1;
        }
        step();
        return doCome(person);
    }

    boolean walk(int person, int place) {
        if (!canWalk(person, place)) {
            return false;
        }
        step();
        doWalk(person, place);
        return true;
    }

    boolean buy(int person, int cloves) {
        if (!known(person) || !in(cloves, 1, 99) || s.people.get(person).cloves + cloves > 99) {
            return false;
        }
        step();
        s.people.get(person).cloves += cloves;
        return true;
    }

    int hour(int n) {
        if (!in(n, 1, 60) || s.hour + n > 9999) {
            return -1;
        }
        int times = 0;
        for (int i = 0; i < n; i++) {
            step();
            times += doHour();
        }
        return times;
    }

    int played(int text) {
        if (!in(text, 0, s.texts.size() - 1)) {
            return -2;
        }
        int number = 0;
        for (int[] clause : s.texts.get(text).deeds) {
            if (!done(clause)) {
                return number;
            }
            number++;
        }
        return -1;
    }

    private boolean done(int[] clause) {
        switch (clause[0]) {
            case 'p': return person(clause[1], clause[2]) >= 0;
            case 'l': return behind(clause[2], clause[1]);
            case 'b': return bite(clause[1]) >= 0;
            case 'c': return come(clause[1]) >= 0;
            case 'w': return walk(clause[1], clause[2]);
            case 'h':
                for (int i = 0; i < clause[1]; i++) {
                    if (hour(1) < 0) {
                        return false;
                    }
                }
                return true;
            default: return true;
        }
    }

    int years(int seed, int n) {
        if (!in(seed, 0, 9999) || !in(n, 1, 40)) {
            return -1;
        }
        step();
        s.x = seed * 2 + 383;
        for (int i = 0; i < n; i++) {
            int x = draw();
            int kind = x % 6;
            if (kind >= 4) {
                if (s.hour < 9999) {
                    doHour();
                }
            } else if (!s.people.isEmpty()) {
                int person = x / 6 % s.people.size();
                if (kind <= 1 && canBite(person)) {
                    doBite(person);
                }
                if (kind == 2 && canCome(person)) {
                    doCome(person);
                }
                if (kind == 3 && canWalk(person, x % 8)) {
                    doWalk(person, x % 8);
                }
            }
        }
        return s.hour;
    }

    int undo() {
        if (s.steps.isEmpty()) {
            return -1;
        }
        State before = s.steps.remove(s.steps.size() - 1);
        for (int person = 0; person < before.people.size(); person++) {
            s.people.set(person, before.people.get(person).copy());
        }
        s.hour = before.hour;
        s.x = before.x;
        s.book = new ArrayList<>(before.book);
        return s.steps.size();
    }

    int of(int person, int what) {
        if (!known(person)) {
            return -100;
        }
        Person one = s.people.get(person);
        switch (what) {
            case 0: return placeOf(person);
            case 1: return one.base;
            case 2: return one.depth;
            case 3: return one.cloves;
            case 4: return one.since;
            case 5: return (int) law(true, ruling(), person);
            case 6: return (int) law(false, ruling(), person);
            default: return -100;
        }
    }

    int place(int place, int what) {
        if (!in(place, 0, 7) || !in(what, 0, 2)) {
            return -100;
        }
        if (what == 0) {
            return s.behind[place];
        }
        if (what == 1) {
            return s.joy[place];
        }
        int bits = 0;
        for (int person = 0; person < s.people.size(); person++) {
            bits += placeOf(person) == place ? 1 << person : 0;
        }
        return bits;
    }

    int is(int what) {
        int sum = 0;
        switch (what) {
            case 0: return s.hour;
            case 1: return s.x;
            case 2:
                for (Person one : s.people) {
                    sum += one.cloves;
                }
                return sum;
            case 3:
                for (Person one : s.people) {
                    sum += one.depth;
                }
                return sum;
            default: return -2;
        }
    }

    int book(int i, int what) {
        if (i == -1) {
            return s.book.size();
        }
        return in(i, 0, s.book.size() - 1) && in(what, 0, 3) ? s.book.get(i)[what] : -2;
    }

    int foretold(int n, int person) {
        if (!in(n, 1, 60) || !known(person)) {
            return -1;
        }
        State before = s.copy();
        for (int i = 0; i < n && s.hour < 9999; i++) {
            doHour();
        }
        int depth = s.people.get(person).depth;
        s = before;
        return depth;
    }

    int after(int place, int n) {
        return in(place, 0, 7) && in(n, 0, 1000000) ? go(place, n) : -1;
    }

    private boolean inRing(int place) {
        for (int n = 1; n <= 8; n++) {
            if (go(place, n) == place) {
                return true;
            }
        }
        return false;
    }

    int ring(int place, boolean ahead) {
        if (!in(place, 0, 7)) {
            return -1;
        }
        int at = place;
        int way = 0;
        while (!inRing(at)) {
            at = s.behind[at];
            way++;
        }
        Set<Integer> ring = new HashSet<>();
        while (ring.add(at)) {
            at = s.behind[at];
        }
        return ahead ? way : ring.size();
    }

    int rings() {
        Set<Set<Integer>> rings = new HashSet<>();
        for (int place = 0; place < 8; place++) {
            Set<Integer> ring = new HashSet<>();
            int at = go(place, 8);
            while (ring.add(at)) {
                at = s.behind[at];
            }
            rings.add(ring);
        }
        return rings.size();
    }

    int left(int n) {
        if (!in(n, 0, 8)) {
            return -1;
        }
        int bits = 0;
        for (int place = 0; place < 8; place++) {
            bits |= 1 << go(place, n);
        }
        return bits;
    }

    int into(int place) {
        if (!in(place, 0, 7)) {
            return -1;
        }
        int bits = 0;
        for (int from = 0; from < 8; from++) {
            bits |= s.behind[from] == place ? 1 << from : 0;
        }
        return bits;
    }

    int meet(int a, int b, int part) {
        if (!in(a, 0, 7) || !in(b, 0, 7) || !in(part, 0, 2)) {
            return -1;
        }
        int first = -1;
        int second = -1;
        for (int i = 0; i < 20; i++) {
            for (int j = 0; j < 20; j++) {
                if (go(a, i) == go(b, j) && (first < 0 || i + j < first + second)) {
                    first = i;
                    second = j;
                }
            }
        }
        return first < 0 ? -1 : part == 0 ? first + second : part == 1 ? first : second;
    }

    // Whether the one who begins wins within so many moves of both.
    private boolean wins(int place, int moves) {
        return moves > 0 && (good(s.behind[place], moves - 1) || good(go(place, 2), moves - 1));
    }

    private boolean good(int to, int moves) {
        return to == 0 || loses(to, moves);
    }

    private boolean loses(int place, int moves) {
        if (moves <= 0) {
            return false;
        }
        int one = s.behind[place];
        int two = go(place, 2);
        return one != 0 && two != 0 && wins(one, moves - 1) && wins(two, moves - 1);
    }

    int game(int place) {
        if (!in(place, 0, 7)) {
            return -1;
        }
        return wins(place, 17) ? 1 : loses(place, 17) ? 0 : 2;
    }

    int move(int place) {
        if (game(place) != 1) {
            return -1;
        }
        return good(s.behind[place], 16) ? 1 : 2;
    }

    private static int span(List<int[]> spans, int from, int to) {
        if (from == -1) {
            spans.clear();
            return 0;
        }
        if (!in(from, 0, 23) || !in(to, from, 23) || spans.size() == 6) {
            return -2;
        }
        spans.add(new int[] {from, to});
        return spans.size();
    }

    int miss(int from, int to) {
        return span(s.doings, from, to);
    }

    int meeting(int from, int to) {
        return span(s.meetings, from, to);
    }

    private static boolean covers(List<int[]> spans, int hour) {
        for (int[] span : spans) {
            if (in(hour, span[0], span[1])) {
                return true;
            }
        }
        return false;
    }

    // The first plan of just so many bites from an hour on, by trying all, the earliest first.
    private boolean planned(int from, int hours, int bites, List<Integer> plan) {
        if (bites == 0) {
            for (int hour = from; hour < 24; hour++) {
                if (covers(s.doings, hour)) {
                    return false;
                }
            }
            return true;
        }
        for (int hour = from; hour < 24; hour++) {
            boolean free = true;
            for (int at = hour; at < Math.min(24, hour + hours); at++) {
                free &= !covers(s.meetings, at);
            }
            if (free) {
                plan.add(hour);
                if (planned(Math.min(24, hour + hours), hours, bites - 1, plan)) {
                    return true;
                }
                plan.remove(plan.size() - 1);
            }
            if (covers(s.doings, hour)) {
                return false;
            }
        }
        return false;
    }

    private List<Integer> plan(int hours) {
        for (int bites = 0; bites <= 24; bites++) {
            List<Integer> plan = new ArrayList<>();
            if (planned(0, hours, bites, plan)) {
                return plan;
            }
        }
        return null;
    }

    int plan(int hours, int i) {
        if (!in(hours, 1, 24)) {
            return -2;
        }
        List<Integer> plan = plan(hours);
        if (plan == null || !in(i, -1, plan.size() - 1)) {
            return -2;
        }
        return i < 0 ? plan.size() : plan.get(i);
    }

    int need(int what) {
        int fewest = -1;
        int most = -1;
        for (int hours = 1; hours <= 24; hours++) {
            if (plan(hours) != null) {
                fewest = fewest < 0 ? hours : fewest;
                most = hours;
            }
        }
        return what == 0 ? fewest : what == 1 ? most : -1;
    }

    int entry(int value) {
        if (value == -1) {
            s.entries.clear();
            return 0;
        }
        if (!in(value, 0, 6) || s.entries.size() == 16) {
            return -2;
        }
        s.entries.add(value);
        return s.entries.size();
    }

    private boolean fits(int[] factors) {
        for (int i = factors.length; i < s.entries.size(); i++) {
            if (next(factors, i) != s.entries.get(i)) {
                return false;
            }
        }
        return true;
    }

    private int next(int[] factors, int at) {
        int sum = 0;
        for (int k = 0; k < factors.length; k++) {
            sum += factors[k] * s.entries.get(at - 1 - k);
        }
        return sum % 7;
    }

    // All laws of a length, the lowest of the nearest factors first, by counting up.
    private static boolean countUp(int[] factors) {
        for (int k = factors.length - 1; k >= 0; k--) {
            factors[k] = (factors[k] + 1) % 7;
            if (factors[k] != 0) {
                return true;
            }
        }
        return false;
    }

    private int[] theLaw() {
        for (int length = 0; length <= 8 && length <= s.entries.size(); length++) {
            int[] factors = new int[length];
            do {
                if (fits(factors)) {
                    return factors;
                }
            } while (countUp(factors));
        }
        return null;
    }

    int law(int what) {
        int[] factors = theLaw();
        if (factors == null || !in(what, 0, 9)) {
            return -1;
        }
        if (what == 0) {
            return factors.length;
        }
        if (what == 9) {
            return next(factors, s.entries.size());
        }
        return what <= factors.length ? factors[what - 1] : -1;
    }

    int fits(int of) {
        if (!in(of, 0, 3)) {
            return -1;
        }
        int[] factors = new int[of];
        int laws = 0;
        do {
            laws += fits(factors) ? 1 : 0;
        } while (countUp(factors));
        return laws;
    }

    private int worth(int base, int depth, int cloves, int n, Map<String, Integer> known) {
        if (n == 0) {
            return 0;
        }
        String key = depth + "," + cloves + "," + n;
        if (!known.containsKey(key)) {
            int most = -9999;
            for (int what = 0; what < 3; what++) {
                most = Math.max(most, choice(base, depth, cloves, n, what, known));
            }
            known.put(key, most);
        }
        return known.get(key);
    }

    private int choice(int base, int depth, int cloves, int n, int what, Map<String, Integer> known) {
        if (what == 1 && (cloves == 0 || depth == 8) || what == 2 && depth == 0) {
            return -9999;
        }
        int to = what == 0 ? depth : what == 1 ? depth + 1 : depth - 1;
        return s.joy[go(base, to)] + worth(base, to, what == 1 ? cloves - 1 : cloves, n - 1, known);
    }

    int worth(int person, int n) {
        if (!known(person) || !in(n, 0, 20)) {
            return -10000;
        }
        Person one = s.people.get(person);
        return worth(one.base, one.depth, one.cloves, n, new HashMap<>());
    }

    int best(int person, int n) {
        if (!known(person) || !in(n, 1, 20)) {
            return -1;
        }
        Person one = s.people.get(person);
        Map<String, Integer> known = new HashMap<>();
        int most = worth(one.base, one.depth, one.cloves, n, known);
        for (int what = 0; what < 2; what++) {
            if (choice(one.base, one.depth, one.cloves, n, what, known) == most) {
                return what;
            }
        }
        return 2;
    }

    private static long ways(int depth, int returns, int n, int to) {
        if (n == 0) {
            return depth == to ? 1 : 0;
        }
        if (depth == 0) {
            return 10 * ways(0, returns, n - 1, to);
        }
        return returns * ways(depth - 1, returns, n - 1, to) + (10 - returns) * ways(depth, returns, n - 1, to);
    }

    long likely(int person, int n, int depth, boolean low) {
        if (!known(person) || !in(n, 0, 6) || !in(depth, 0, 8)) {
            return -1;
        }
        long upper = ways(s.people.get(person).depth, (int) law(false, ruling(), person), n, depth);
        long lower = (long) Math.pow(10, n);
        return lowest(upper, lower, low);
    }

    private static long lowest(long upper, long lower, boolean low) {
        long by = java.math.BigInteger.valueOf(upper).gcd(java.math.BigInteger.valueOf(lower)).longValue();
        return (low ? lower : upper) / by;
    }

    int longing(int person, boolean low) {
        if (!known(person)) {
            return -1;
        }
        int depth = s.people.get(person).depth;
        int returns = (int) law(false, ruling(), person);
        if (depth > 0 && returns == 0) {
            return -1;
        }
        return depth == 0 ? (low ? 1 : 0) : (int) lowest(depth * 10L, returns, low);
    }

    int said(int person, int returns) {
        if (person == -1) {
            s.said.clear();
            return 0;
        }
        if (!known(person) || !in(returns, 0, 10) || s.said.size() == 8) {
            return -2;
        }
        s.said.add(new int[] {person, returns});
        return s.said.size();
    }

    int whose() {
        int bits = 0;
        for (int text = 0; text < s.texts.size(); text++) {
            boolean all = true;
            for (int[] one : s.said) {
                all &= law(false, s.texts.get(text), one[0]) == one[1];
            }
            bits |= all ? 1 << text : 0;
        }
        return bits;
    }

    int deepest() {
        int deepest = -1;
        for (int person = s.people.size() - 1; person >= 0; person--) {
            int depth = s.people.get(person).depth;
            if (depth > 0 && (deepest < 0 || depth >= s.people.get(deepest).depth)) {
                deepest = person;
            }
        }
        return deepest;
    }

    int away() {
        int bits = 0;
        for (int person = 0; person < s.people.size(); person++) {
            bits |= s.people.get(person).depth > 0 ? 1 << person : 0;
        }
        return bits;
    }

    int alone() {
        int bits = 0;
        for (int person = 0; person < s.people.size(); person++) {
            boolean alone = true;
            for (int other = 0; other < s.people.size(); other++) {
                alone &= other == person || placeOf(other) != placeOf(person);
            }
            bits |= alone ? 1 << person : 0;
        }
        return bits;
    }

    int gladdest() {
        int gladdest = -1;
        for (int person = s.people.size() - 1; person >= 0; person--) {
            if (gladdest < 0 || s.joy[placeOf(person)] >= s.joy[placeOf(gladdest)]) {
                gladdest = person;
            }
        }
        return gladdest;
    }

    int ledger(int what) {
        if (!in(what, 0, 2)) {
            return -2;
        }
        int lines = 0;
        for (int[] line : s.book) {
            lines += line[2] == what ? 1 : 0;
        }
        return lines;
    }

    int image() {
        image = s.copy();
        return s.hour;
    }

    int back() {
        s = image.copy();
        return s.hour;
    }

    int about(int what) {
        switch (what) {
            case 0: return s.people.size();
            case 1: return s.texts.size();
            case 2: return s.ruling;
            case 3: return s.steps.size();
            case 4: return s.doings.size();
            case 5: return s.meetings.size();
            case 6: return s.entries.size();
            case 7: return s.said.size();
            case 8: return tape.length();
            default: return -2;
        }
    }
}
