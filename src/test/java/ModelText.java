import java.util.ArrayList;
import java.util.List;
import java.util.Map;
import java.util.regex.Matcher;
import java.util.regex.Pattern;

// The model's reading of a text: tokens by a pattern, sums as trees.
final class ModelText {
    interface Sum {
        long of(Asked asked);
    }

    static final class Asked {
        final Map<String, Long> names;
        final int[] behind;
        final List<Model.Person> people;

        Asked(Map<String, Long> names, int[] behind, List<Model.Person> people) {
            this.names = names;
            this.behind = behind;
            this.people = people;
        }
    }

    static final class Fault extends RuntimeException {
        private static final long serialVersionUID = 1L;
        final int what;
        final int place;

        Fault(int what, int place) {
            this.what = what;
            this.place = place;
        }
    }

    private static final Pattern TOKEN = Pattern.compile("[ \n]+|[a-zA-Z]+|[0-9]+|<=|>=|.", Pattern.DOTALL);
    private static final List<String> NAMES = List.of("hour", "who", "place", "depth", "cloves", "with", "since", "joy");

    int fault;
    int faultPlace = -1;
    Sum bites;
    Sum returns;
    final List<int[]> deeds = new ArrayList<>();

    private final List<String> tokens = new ArrayList<>();
    private final List<Integer> starts = new ArrayList<>();
    private int at;
    private String law;
    private int open;

    ModelText(String tape) {
        Matcher matcher = TOKEN.matcher(tape);
        while (matcher.find()) {
            if (!matcher.group().matches("[ \n]+")) {
                tokens.add(matcher.group());
                starts.add(matcher.start());
            }
        }
        tokens.add("");
        starts.add(tape.length());
        try {
            while (!now().isEmpty()) {
                clause();
            }
        } catch (Fault found) {
            fault = found.what;
            faultPlace = found.place;
        }
    }

    private String now() {
        return tokens.get(at);
    }

    private Fault wrong(int what) {
        return new Fault(what, starts.get(at));
    }

    private boolean skip(String token) {
        if (now().equals(token)) {
            at++;
            return true;
        }
        return false;
    }

    private void must(String token) {
        if (!skip(token)) {
            throw wrong(1);
        }
    }

    private int number(int least, int most) {
        if (!now().matches("[0-9]+")) {
            throw wrong(1);
        }
        java.math.BigInteger value = new java.math.BigInteger(now());
        if (value.compareTo(java.math.BigInteger.valueOf(least)) < 0 || value.compareTo(java.math.BigInteger.valueOf(most)) > 0) {
            throw wrong(2);
        }
        at++;
        return value.intValue();
    }

    private void clause() {
        String word = now();
        if (!List.of("bites", "returns", "person", "place", "bite", "come", "walk", "hour").contains(word)) {
            throw wrong(1);
        }
        if (word.equals("bites") && bites != null || word.equals("returns") && returns != null) {
            throw wrong(4);
        }
        if (deeds.size() == 24) {
            throw wrong(6);
        }
        at++;
        int[] deed = {0, 0, 0};
        switch (word) {
            case "bites":
                law = word;
                bites = sum();
                break;
            case "returns":
                law = word;
                returns = sum();
                break;
            case "person":
                deed = pair('p', 7, "cloves", 99);
                break;
            case "place":
                deed = pair('l', 7, "behind", 7);
                break;
            case "walk":
                deed = pair('w', 4, "to", 7);
                break;
            case "hour":
                deed = new int[] {'h', number(1, 60), 0};
                break;
            default:
                deed = new int[] {word.charAt(0), number(0, 4), 0};
                break;
        }
        must(";");
        deeds.add(deed);
    }

    private int[] pair(char kind, int mostFirst, String between, int mostSecond) {
        int first = number(0, mostFirst);
        must(between);
        return new int[] {kind, first, number(0, mostSecond)};
    }

    private static long held(long value) {
        return Math.max(-1000000, Math.min(1000000, value));
    }

    private Sum sum() {
        Sum sum = product();
        while (true) {
            Sum left = sum;
            if (skip("+")) {
                Sum right = product();
                sum = asked -> held(left.of(asked) + right.of(asked));
            } else if (skip("-")) {
                Sum right = product();
                sum = asked -> held(left.of(asked) - right.of(asked));
            } else {
                return sum;
            }
        }
    }

    private Sum product() {
        Sum product = one();
        while (true) {
            Sum left = product;
            if (skip("*")) {
                Sum right = one();
                product = asked -> held(left.of(asked) * right.of(asked));
            } else if (skip("/")) {
                Sum right = one();
                product = asked -> right.of(asked) == 0 ? 0 : left.of(asked) / right.of(asked);
            } else {
                return product;
            }
        }
    }

    private void opens() {
        if (open == 8) {
            throw wrong(3);
        }
        open++;
        at++;
    }

    private Sum one() {
        String word = now();
        if (word.matches("[0-9]+")) {
            long value = number(0, 9999);
            return asked -> value;
        }
        if (NAMES.contains(word)) {
            if (word.equals("since") && law.equals("bites") || word.equals("joy") && law.equals("returns")) {
                throw wrong(5);
            }
            at++;
            return asked -> asked.names.get(word);
        }
        if (!List.of("(", "-", "behind", "deep", "if").contains(word)) {
            throw wrong(1);
        }
        opens();
        Sum result = opened(word);
        open--;
        return result;
    }

    private Sum opened(String word) {
        if (word.equals("(")) {
            Sum inner = sum();
            must(")");
            return inner;
        }
        if (word.equals("if")) {
            Sum asks = either();
            must("then");
            Sum yes = sum();
            must("else");
            Sum no = sum();
            must("end");
            return asked -> asks.of(asked) != 0 ? yes.of(asked) : no.of(asked);
        }
        Sum inner = one();
        if (word.equals("-")) {
            return asked -> -inner.of(asked);
        }
        boolean deep = word.equals("deep");
        return asked -> {
            long value = inner.of(asked);
            if (value < 0 || value >= (deep ? asked.people.size() : 8)) {
                return 0;
            }
            return deep ? asked.people.get((int) value).depth : asked.behind[(int) value];
        };
    }

    private Sum either() {
        Sum result = both();
        while (skip("or")) {
            Sum left = result;
            Sum right = both();
            result = asked -> left.of(asked) + right.of(asked) > 0 ? 1 : 0;
        }
        return result;
    }

    private Sum both() {
        Sum result = ask();
        while (skip("and")) {
            Sum left = result;
            Sum right = ask();
            result = asked -> left.of(asked) * right.of(asked);
        }
        return result;
    }

    private Sum ask() {
        if (now().equals("not")) {
            opens();
            Sum inner = ask();
            open--;
            return asked -> 1 - inner.of(asked);
        }
        Sum left = sum();
        String sign = now();
        if (!List.of("<", "<=", ">", ">=", "=", "#").contains(sign)) {
            throw wrong(1);
        }
        at++;
        Sum right = sum();
        return asked -> holds(sign, Long.compare(left.of(asked), right.of(asked))) ? 1 : 0;
    }

    private static boolean holds(String sign, int order) {
        switch (sign) {
            case "<": return order < 0;
            case "<=": return order <= 0;
            case ">": return order > 0;
            case ">=": return order >= 0;
            case "=": return order == 0;
            default: return order != 0;
        }
    }
}
