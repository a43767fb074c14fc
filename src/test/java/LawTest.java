// Promise 18 (bites and returns): what laws answer. Promise 9: whose law rules.
public final class LawTest {
    public static void main(String[] args) {
        by();
        without();
        sums();
        asks();
        namesOfBoth();
        namesOfOne();
        bounds();
        Due.end();
    }

    // Promise 9.
    private static void by() {
        FarSide x = new FarSide();
        x.person(0, 9);
        Due.no("by(0) without texts", x.by(0));
        Due.yes("by(NONE)", x.by(-1));
        Due.read(x, "bites 5; returns 6;");
        Due.read(x, "bites 0;");
        Due.is("no law rules yet", x.about(2), -1);
        Due.is("bites by none", x.of(0, 5), 1);
        Due.no("by(2)", x.by(2));
        Due.no("by(-2)", x.by(-2));
        Due.yes("by(0)", x.by(0));
        Due.is("bites by 0", x.of(0, 5), 5);
        Due.is("returns by 0", x.of(0, 6), 6);
        Due.yes("by(1)", x.by(1));
        Due.no("by(4)", x.by(4));
        Due.is("the text", x.about(2), 1);
        Due.is("bites by 1", x.of(0, 5), 0);
        Due.is("returns by 1, which has none", x.of(0, 6), 2);
        Due.is("nobody bites by 1", x.bite(0), -1);
        Due.yes("by(NONE) again", x.by(-1));
        Due.is("bite by none", x.bite(0), 0);
        Due.is("ruling is no step", x.about(3), 1);
    }

    private static void without() {
        FarSide x = new FarSide();
        x.person(0, 99);
        for (int depth = 0; depth <= 8; depth++) {
            Due.is("bites without a law", x.of(0, 5), 1);
            Due.is("returns without a law", x.of(0, 6), 2 + depth);
            x.bite(0);
        }
    }

    private static void bites(String sum, int want) {
        FarSide x = new FarSide();
        x.behind(2, 3);
        x.behind(3, 5);
        x.person(2, 9);
        x.person(2, 9);
        x.bite(1);
        x.bite(1);
        Due.is("text of " + sum, Due.read(x, "bites " + sum + ";"), 0);
        x.by(0);
        Due.is("bites " + sum, x.of(0, 5), want);
    }

    private static void sums() {
        bites("7", 7);
        bites("1 + 2 * 3", 7);
        bites("(1 + 2) * 3", 9);
        bites("10 - 3 - 4", 3);
        bites("10 - (3 - 4)", 11);
        bites("7 / 2 * 2", 6);
        bites("7 * 2 / 4", 3);
        bites("-7 / 2", -3);
        bites("7 / -2", -3);
        bites("7 / 0", 0);
        bites("0 / 0 + 5", 5);
        bites("- - 4", 4);
        bites("-2 * -3", 6);
        bites("9 - -4", 13);
        bites("9999 * 9999 / 9999", 99);
        bites("9999 * 9999 / 9999 - 50", 50);
        bites("-9999 * 9999 / 9999 + 50", -50);
        bites("9999 * 101 - 9999 * 100 - 50", 50);
        bites("(9999 * 100 + 150) - 9999 * 100 - 50", 50);
        bites("(-9999 * 100 - 150) + 9999 * 100 + 50", -50);
        bites("(9999 * 100 + 99) - 9999 * 100 - 50", 49);
        bites("behind 2", 3);
        bites("behind behind 2", 5);
        bites("behind 2 + 1", 4);
        bites("behind (2 + 1)", 5);
        bites("behind 7", 7);
        bites("behind 8", 0);
        bites("behind -1", 0);
        bites("behind 9999", 0);
        bites("deep 1", 2);
        bites("deep 0", 0);
        bites("deep 2", 0);
        bites("deep -1", 0);
        bites("deep 9999", 0);
        bites("deep 1 * 3", 6);
        bites("-deep 1", -2);
    }

    private static void asks() {
        bites("if 1 < 2 then 3 else 4 end", 3);
        bites("if 2 < 2 then 3 else 4 end", 4);
        bites("if 2 <= 2 then 3 else 4 end", 3);
        bites("if 3 <= 2 then 3 else 4 end", 4);
        bites("if 3 > 2 then 3 else 4 end", 3);
        bites("if 2 > 2 then 3 else 4 end", 4);
        bites("if 2 >= 2 then 3 else 4 end", 3);
        bites("if 1 >= 2 then 3 else 4 end", 4);
        bites("if 2 = 2 then 3 else 4 end", 3);
        bites("if 1 = 2 then 3 else 4 end", 4);
        bites("if 1 # 2 then 3 else 4 end", 3);
        bites("if 2 # 2 then 3 else 4 end", 4);
        bites("if not 1 < 2 then 3 else 4 end", 4);
        bites("if not not 1 < 2 then 3 else 4 end", 3);
        bites("if 1 < 2 and 2 < 1 then 3 else 4 end", 4);
        bites("if 1 < 2 and 1 < 2 then 3 else 4 end", 3);
        bites("if 1 < 2 or 2 < 1 then 3 else 4 end", 3);
        bites("if 2 < 1 or 2 < 1 then 3 else 4 end", 4);
        bites("if 1 < 2 or 2 < 1 and 2 < 1 then 3 else 4 end", 3);
        bites("if not 1 < 2 and 2 < 1 then 3 else 4 end", 4);
        bites("if not 2 < 1 or 1 < 2 then 3 else 4 end", 3);
        bites("if 1 + 1 * 2 = 3 then 3 else 4 end + 10", 13);
        bites("2 * if 1 < 2 then if 2 < 1 then 5 else 6 end else 7 end", 12);
        bites("if if 1 < 2 then 5 else 6 end = 5 then 8 else 9 end", 8);
        bites("if 2 < 1 then if 1 < 2 then 5 else 6 end else 1 + if 1 < 2 then 7 else 8 end end", 8);
        bites("-if 1 < 2 then 3 else 4 end", -3);
    }

    private static void namesOfBoth() {
        String[] names = {"hour", "who", "place", "depth", "cloves", "with"};
        int[] want = {5, 1, 6, 1, 22, 2};
        for (int i = 0; i < names.length; i++) {
            FarSide y = new FarSide();
            y.behind(4, 6);
            y.person(6, 11);
            y.person(4, 23);
            y.person(6, 3);
            y.hour(5);
            y.bite(1);
            Due.read(y, "bites " + names[i] + "; returns " + names[i] + "+0;");
            y.by(0);
            Due.is("bites " + names[i], y.of(1, 5), want[i]);
            Due.is("returns " + names[i], y.of(1, 6), Math.min(10, want[i]));
        }
    }

    private static void namesOfOne() {
        FarSide x = new FarSide();
        x.behind(4, 6);
        x.behind(6, 7);
        x.joy(4, 1);
        x.joy(6, 2);
        x.joy(7, -5);
        x.person(4, 9);
        Due.read(x, "bites joy; returns since;");
        x.by(0);
        Due.is("joy of the place behind its place", x.of(0, 5), 2);
        x.hour(7);
        Due.is("since", x.of(0, 6), 7);
        x.bite(0);
        Due.is("joy of the place behind, one deeper", x.of(0, 5), -5);
        Due.is("since, after a bite", x.of(0, 6), 0);
        Due.is("nobody bites for that", x.bite(0), -1);
    }

    private static void bounds() {
        bites("99", 99);
        bites("100", 99);
        bites("-99", -99);
        bites("-100", -99);
        bites("9999 * 9999", 99);
        FarSide x = new FarSide();
        x.person(0, 1);
        Due.read(x, "returns 10;");
        Due.read(x, "returns 11;");
        Due.read(x, "returns -1;");
        Due.read(x, "returns 0;");
        int[] want = {10, 10, 0, 0};
        for (int text = 0; text < 4; text++) {
            x.by(text);
            Due.is("returns by " + text, x.of(0, 6), want[text]);
        }
    }
}
