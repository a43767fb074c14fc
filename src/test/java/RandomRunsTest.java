import java.util.Random;

// Long runs of chance calls (always the same ones), each answer compared with the model's.
public final class RandomRunsTest {
    private static final String[] NAMES = {"hour", "who", "place", "depth", "cloves", "with", "since", "joy"};
    private static final String[] JUNK = {"if", "then", "else", "end", "and", "or", "not", "deep", "behind", "(", ")", ";",
        "<", "<=", ">", ">=", "=", "#", "+", "-", "*", "/", "bites", "returns", "person", "come", "walk", "to", "hour",
        "10000", "8", "5", "0", "61", "100", "Depth", "x", "!", "\t", "since", "joy"};

    private final Random random;
    private final FarSide x = new FarSide();
    private final Model model = new Model();
    private final StringBuilder trace = new StringBuilder();
    private int wrong;
    private int calls;
    private boolean quiet;

    private RandomRunsTest(long seed) {
        random = new Random(seed);
    }

    public static void main(String[] args) {
        int runs = args.length > 0 ? Integer.parseInt(args[0]) : 150;
        int first = args.length > 1 ? Integer.parseInt(args[1]) : 0;
        int wrongRuns = 0;
        for (int seed = first; seed < first + runs && wrongRuns < 5; seed++) {
            RandomRunsTest run = new RandomRunsTest(seed);
            run.go();
            if (run.wrong > 0) {
                wrongRuns++;
                System.out.println("run " + seed + ":\n" + run.trace);
            }
        }
        System.out.println(wrongRuns == 0 ? "all runs are as the model's" : "some runs are not as the model's");
        if (wrongRuns > 0) {
            System.exit(1);
        }
    }

    private void go() {
        if (random.nextBoolean()) {
            told();
        }
        quiet = random.nextBoolean();
        // An object has 512 calls, and reading a text takes some twenty.
        while (calls < 490 && wrong == 0) {
            act();
        }
    }

    private void told() {
        for (int place = 0; place < 8; place++) {
            int to = random.nextInt(8);
            same("behind(" + place + ", " + to + ")", bit(x.behind(place, to)), bit(model.behind(place, to)));
            int joy = random.nextInt(19) - 9;
            same("joy(" + place + ", " + joy + ")", bit(x.joy(place, joy)), bit(model.joy(place, joy)));
        }
        for (int i = random.nextInt(5); i >= 0; i--) {
            int place = random.nextInt(8);
            int cloves = random.nextInt(100);
            same("person(" + place + ", " + cloves + ")", x.person(place, cloves), model.person(place, cloves));
        }
    }

    private void same(String call, long got, long want) {
        calls++;
        trace.append(call).append(" = ").append(got);
        if (got != want) {
            wrong++;
            trace.append(", the model says ").append(want);
        }
        trace.append('\n');
    }

    private static long bit(boolean is) {
        return is ? 1 : 0;
    }

    // Mostly inside its bounds, at times just beyond them or far away.
    private int pick(int least, int most) {
        int chance = random.nextInt(40);
        if (chance == 0) {
            return least - 1;
        }
        if (chance == 1) {
            return most + 1;
        }
        if (chance == 2) {
            int[] far = {Integer.MIN_VALUE, Integer.MAX_VALUE, -2, 1000, 1 << 16};
            return far[random.nextInt(far.length)];
        }
        if (chance == 3) {
            return least;
        }
        if (chance == 4) {
            return most;
        }
        return least + random.nextInt(most - least + 1);
    }

    private int who() {
        int people = model.s.people.size();
        return people > 0 && random.nextInt(10) > 0 ? random.nextInt(people) : pick(0, 4);
    }

    private void act() {
        int a;
        int b;
        int c;
        boolean low = random.nextBoolean();
        switch (random.nextInt(quiet ? 60 : 67)) {
            case 0:
                a = pick(0, 7);
                b = pick(0, 99);
                same("person(" + a + ", " + b + ")", x.person(a, b), model.person(a, b));
                break;
            case 1:
                a = pick(0, 7);
                b = pick(0, 7);
                same("behind(" + a + ", " + b + ")", bit(x.behind(a, b)), bit(model.behind(a, b)));
                break;
            case 2:
                a = pick(0, 7);
                b = pick(-9, 9);
                same("joy(" + a + ", " + b + ")", bit(x.joy(a, b)), bit(model.joy(a, b)));
                break;
            case 3:
                a = random.nextInt();
                same("feed(" + a + ", ..)", x.feed(a, a + 1, a * 3, 0, -1), model.feed(a, a + 1, a * 3, 0, -1));
                break;
            case 4:
                a = pick(0, 300);
                same("end(" + a + ")", x.end(a), model.end(a));
                break;
            case 5:
            case 6:
                readText();
                break;
            case 7:
                same("text()", x.text(), model.text());
                break;
            case 8:
                a = pick(0, 1);
                same("fault(" + a + ")", x.fault(a), model.fault(a));
                break;
            case 9:
            case 10:
                a = pick(-1, 3);
                same("by(" + a + ")", bit(x.by(a)), bit(model.by(a)));
                break;
            case 11:
            case 12:
            case 61:
            case 62:
                a = who();
                same("bite(" + a + ")", x.bite(a), model.bite(a));
                break;
            case 13:
                a = who();
                same("come(" + a + ")", x.come(a), model.come(a));
                break;
            case 14:
            case 63:
                a = who();
                b = pick(0, 7);
                same("walk(" + a + ", " + b + ")", bit(x.walk(a, b)), bit(model.walk(a, b)));
                break;
            case 15:
                a = who();
                b = pick(1, low ? 99 : 5);
                same("buy(" + a + ", " + b + ")", bit(x.buy(a, b)), bit(model.buy(a, b)));
                break;
            case 16:
            case 64:
                a = pick(1, low ? 60 : 3);
                same("hour(" + a + ")", x.hour(a), model.hour(a));
                break;
            case 17:
            case 65:
                a = pick(0, 3);
                same("played(" + a + ")", x.played(a), model.played(a));
                break;
            case 18:
            case 66:
                a = pick(0, 9999);
                b = pick(1, 40);
                same("years(" + a + ", " + b + ")", x.years(a, b), model.years(a, b));
                break;
            case 19:
            case 20:
                same("undo()", x.undo(), model.undo());
                break;
            case 21:
            case 22:
            case 23:
                a = who();
                b = pick(0, 6);
                same("of(" + a + ", " + b + ")", x.of(a, b), model.of(a, b));
                break;
            case 24:
                a = pick(0, 7);
                b = pick(0, 2);
                same("place(" + a + ", " + b + ")", x.place(a, b), model.place(a, b));
                break;
            case 25:
                a = pick(0, 3);
                same("is(" + a + ")", x.is(a), model.is(a));
                break;
            case 26:
                a = pick(-1, Math.max(0, model.s.book.size() - 1));
                b = pick(0, 3);
                same("book(" + a + ", " + b + ")", x.book(a, b), model.book(a, b));
                break;
            case 27:
                a = pick(1, low ? 60 : 5);
                b = who();
                same("foretold(" + a + ", " + b + ")", x.foretold(a, b), model.foretold(a, b));
                break;
            case 28:
                a = pick(0, 7);
                b = pick(0, low ? 1000000 : 20);
                same("after(" + a + ", " + b + ")", x.after(a, b), model.after(a, b));
                break;
            case 29:
                a = pick(0, 7);
                same("ring(" + a + ", " + low + ")", x.ring(a, low), model.ring(a, low));
                break;
            case 30:
                same("rings()", x.rings(), model.rings());
                break;
            case 31:
                a = pick(0, 8);
                same("left(" + a + ")", x.left(a), model.left(a));
                break;
            case 32:
                a = pick(0, 7);
                same("into(" + a + ")", x.into(a), model.into(a));
                break;
            case 33:
                a = pick(0, 7);
                b = pick(0, 7);
                c = pick(0, 2);
                same("meet(" + a + ", " + b + ", " + c + ")", x.meet(a, b, c), model.meet(a, b, c));
                break;
            case 34:
                a = pick(0, 7);
                same("game(" + a + ")", x.game(a), model.game(a));
                break;
            case 35:
                a = pick(0, 7);
                same("move(" + a + ")", x.move(a), model.move(a));
                break;
            case 36:
                a = random.nextInt(8) == 0 ? -1 : pick(0, 23);
                b = low ? pick(0, 23) : a + random.nextInt(4);
                same("miss(" + a + ", " + b + ")", x.miss(a, b), model.miss(a, b));
                break;
            case 37:
                a = random.nextInt(5) == 0 ? -1 : pick(0, 23);
                b = a + random.nextInt(3);
                same("meeting(" + a + ", " + b + ")", x.meeting(a, b), model.meeting(a, b));
                break;
            case 38:
                a = pick(1, low ? 24 : 6);
                b = pick(-1, 4);
                same("plan(" + a + ", " + b + ")", x.plan(a, b), model.plan(a, b));
                break;
            case 39:
                a = pick(0, 1);
                same("need(" + a + ")", x.need(a), model.need(a));
                break;
            case 40:
            case 41:
                a = random.nextInt(12) == 0 ? -1 : pick(0, low ? 6 : 1);
                same("entry(" + a + ")", x.entry(a), model.entry(a));
                break;
            case 42:
                a = pick(0, 9);
                same("law(" + a + ")", x.law(a), model.law(a));
                break;
            case 43:
                a = pick(0, 3);
                same("fits(" + a + ")", x.fits(a), model.fits(a));
                break;
            case 44:
                a = who();
                b = pick(0, 20);
                same("worth(" + a + ", " + b + ")", x.worth(a, b), model.worth(a, b));
                break;
            case 45:
                a = who();
                b = pick(1, 20);
                same("best(" + a + ", " + b + ")", x.best(a, b), model.best(a, b));
                break;
            case 46:
                a = who();
                b = pick(0, 6);
                c = pick(0, 8);
                same("likely(" + a + ", " + b + ", " + c + ", " + low + ")", x.likely(a, b, c, low), model.likely(a, b, c, low));
                break;
            case 47:
                a = who();
                same("longing(" + a + ", " + low + ")", x.longing(a, low), model.longing(a, low));
                break;
            case 48:
                a = random.nextInt(8) == 0 ? -1 : who();
                b = low && a >= 0 && a < model.s.people.size() ? x.of(a, 6) : pick(0, 10);
                same("said(" + a + ", " + b + ")", x.said(a, b), model.said(a, b));
                break;
            case 49:
                same("whose()", x.whose(), model.whose());
                break;
            case 50:
                same("deepest()", x.deepest(), model.deepest());
                break;
            case 51:
                same("away()", x.away(), model.away());
                break;
            case 52:
                same("alone()", x.alone(), model.alone());
                break;
            case 53:
                same("gladdest()", x.gladdest(), model.gladdest());
                break;
            case 54:
                a = pick(0, 2);
                same("ledger(" + a + ")", x.ledger(a), model.ledger(a));
                break;
            case 55:
                same("image()", x.image(), model.image());
                break;
            case 56:
                same("back()", x.back(), model.back());
                break;
            default:
                a = pick(0, 8);
                same("about(" + a + ")", x.about(a), model.about(a));
                break;
        }
    }

    private void readText() {
        String text = textByChance();
        trace.append("tape: ").append(text).append('\n');
        same("end(0)", x.end(0), model.end(0));
        for (int start = 0; start < text.length(); start += 20) {
            int[] words = new int[5];
            for (int i = 0; i < 5; i++) {
                words[i] = Due.word(text, start + 4 * i);
            }
            same("feed", x.feed(words[0], words[1], words[2], words[3], words[4]), model.feed(words));
        }
        same("end", x.end(text.length()), model.end(text.length()));
        same("text()", x.text(), model.text());
        same("fault(0)", x.fault(0), model.fault(0));
        same("fault(1)", x.fault(1), model.fault(1));
    }

    private String textByChance() {
        StringBuilder text = new StringBuilder();
        if (random.nextInt(6) == 0) {
            for (int i = random.nextInt(30); i >= 0 && text.length() < 280; i--) {
                text.append(new String[] {"bite 0;", "hour 1;", "come 1;", "walk 0 to 3;", "hour 60;", "place 1 behind 2;"}[random.nextInt(6)]);
            }
        } else {
            for (int i = random.nextInt(6); i >= 0; i--) {
                text.append(clause());
            }
        }
        if (random.nextInt(4) == 0) {
            String[] tokens = text.toString().split("(?<=[ ;])|(?=[ ;])");
            tokens[random.nextInt(tokens.length)] = JUNK[random.nextInt(JUNK.length)];
            text = new StringBuilder(String.join("", tokens));
        }
        if (random.nextInt(12) == 0) {
            text.setLength(random.nextInt(text.length() + 1));
        }
        if (text.length() > 300) {
            text.setLength(300);
        }
        return text.toString();
    }

    private String clause() {
        switch (random.nextInt(9)) {
            case 0:
            case 1: return "bites " + sum("bites", 3) + ";";
            case 2:
            case 3: return "returns " + sum("returns", 3) + ";\n";
            case 4: return "person " + pick(0, 7) + " cloves " + pick(0, 99) + ";";
            case 5: return "place " + pick(0, 7) + " behind " + pick(0, 7) + ";";
            case 6: return (random.nextBoolean() ? "bite " : "come ") + pick(0, 4) + ";";
            case 7: return "walk " + pick(0, 4) + " to " + pick(0, 7) + " ;";
            default: return "hour " + pick(1, random.nextBoolean() ? 60 : 3) + ";";
        }
    }

    private String sum(String law, int deep) {
        String sum = product(law, deep);
        for (int i = random.nextInt(3); i > 0; i--) {
            sum += (random.nextBoolean() ? "+" : " - ") + product(law, deep);
        }
        return sum;
    }

    private String product(String law, int deep) {
        String product = one(law, deep);
        for (int i = random.nextInt(5); i > 2; i--) {
            product += (random.nextBoolean() ? "*" : "/") + one(law, deep);
        }
        return product;
    }

    private String one(String law, int deep) {
        int kind = random.nextInt(deep > 0 ? 9 : 3);
        switch (kind) {
            case 0: return String.valueOf(pick(0, random.nextInt(4) == 0 ? 9999 : 9));
            case 1:
            case 2:
                String name = NAMES[random.nextInt(8)];
                if (name.equals("since") && law.equals("bites") || name.equals("joy") && law.equals("returns")) {
                    return random.nextInt(8) == 0 ? name : "depth";
                }
                return name;
            case 3: return "(" + sum(law, deep - 1) + ")";
            case 4: return "-" + one(law, random.nextInt(3) == 0 ? deep : deep - 1);
            case 5: return "behind " + one(law, random.nextInt(2) == 0 ? deep : deep - 1);
            case 6: return "deep " + one(law, deep - 1);
            default: return "if " + ask(law, deep - 1) + " then " + sum(law, deep - 1) + " else " + sum(law, deep - 1) + " end";
        }
    }

    private String ask(String law, int deep) {
        String[] signs = {"<", "<=", ">", ">=", "=", "#"};
        String ask = one(law, deep) + signs[random.nextInt(6)] + one(law, deep);
        switch (random.nextInt(5)) {
            case 0: return "not " + ask;
            case 1: return ask + " and " + (deep > 0 ? ask(law, deep - 1) : ask);
            case 2: return ask + " or " + (deep > 0 ? ask(law, deep - 1) : ask);
            default: return ask;
        }
    }
}
