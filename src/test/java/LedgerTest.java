import java.util.Random;

// Promises 35 to 37: the entries, the smallest law of them, and how many laws fit.
public final class LedgerTest {
    public static void main(String[] args) {
        entry();
        law();
        lowestFactors();
        noLaw();
        fits();
        byTryingAll();
        Due.end();
    }

    private static FarSide of(int... entries) {
        FarSide x = new FarSide();
        for (int value : entries) {
            x.entry(value);
        }
        return x;
    }

    // Promise 35.
    private static void entry() {
        FarSide x = new FarSide();
        Due.is("entry(-1) of none", x.entry(-1), 0);
        Due.is("entry(7)", x.entry(7), -2);
        Due.is("entry(-2)", x.entry(-2), -2);
        Due.is("entry(MAX)", x.entry(Integer.MAX_VALUE), -2);
        Due.is("none", x.about(6), 0);
        for (int i = 1; i <= 16; i++) {
            Due.is("entry " + i, x.entry(i % 7), i);
        }
        Due.is("a 17th", x.entry(0), -2);
        Due.is("16", x.about(6), 16);
        Due.is("entry(-1)", x.entry(-1), 0);
        Due.is("none any more", x.law(9), 0);
        Due.is("entry(6)", x.entry(6), 1);
        Due.is("no steps", x.about(3), 0);
    }

    private static void is(FarSide x, int length, int next, int... factors) {
        Due.is("law(0)", x.law(0), length);
        for (int ahead = 1; ahead <= 8; ahead++) {
            Due.is("law(" + ahead + ")", x.law(ahead), ahead <= factors.length ? factors[ahead - 1] : -1);
        }
        Due.is("law(9)", x.law(9), next);
    }

    // Promise 36.
    private static void law() {
        FarSide x = new FarSide();
        is(x, 0, 0);
        Due.is("law(10)", x.law(10), -1);
        Due.is("law(-1)", x.law(-1), -1);
        is(of(0, 0, 0), 0, 0);
        is(of(3), 1, 0, 0);
        is(of(3, 0, 0), 1, 0, 0);
        is(of(3, 5), 1, 6, 4);
        FarSide again = of(3, 3, 3);
        is(again, 1, 3, 1);
        again.entry(-1);
        again.entry(4);
        is(again, 1, 0, 0);
        is(of(3, 3, 3), 1, 3, 1);
        is(of(1, 1, 2, 3, 5, 1, 6, 0), 2, 6, 1, 1);
        is(of(0, 1), 2, 0, 0, 0);
        is(of(0, 0, 0, 4), 4, 0, 0, 0, 0, 0);
    }

    private static void lowestFactors() {
        // Of two: 2 is 4 times 5 and y times 3, by 7: 20 + 3 y = 2, y = 1; 0 first: 3 y = 2, y = 3.
        is(of(3, 5, 2), 2, 1, 0, 3);
        is(of(0, 0, 1), 3, 0, 0, 0, 0);
        is(of(2, 0, 3), 2, 0, 0, 5);
        is(of(1, 0, 0, 1, 0, 0), 3, 1, 0, 0, 1);
    }

    private static void noLaw() {
        FarSide x = of(0, 0, 0, 0, 0, 0, 0, 0);
        is(x, 0, 0);
        x.entry(1);
        for (int what = 0; what <= 9; what++) {
            Due.is("none: law(" + what + ")", x.law(what), -1);
        }
        FarSide y = of(0, 0, 0, 0, 0, 0, 0, 1);
        is(y, 8, 0, 0, 0, 0, 0, 0, 0, 0, 0);
        y.entry(5);
        is(y, 8, 4, 5, 0, 0, 0, 0, 0, 0, 0);
    }

    private static void fit(FarSide x, int... want) {
        for (int of = 0; of < 4; of++) {
            Due.is("fits(" + of + ")", x.fits(of), want[of]);
        }
    }

    // Promise 37.
    private static void fits() {
        FarSide x = new FarSide();
        fit(x, 1, 7, 49, 343);
        Due.is("fits(4)", x.fits(4), -1);
        Due.is("fits(-1)", x.fits(-1), -1);
        fit(of(0, 0, 0, 0, 0), 1, 7, 49, 343);
        fit(of(3), 0, 7, 49, 343);
        fit(of(3, 5), 0, 1, 49, 343);
        fit(of(3, 5, 2), 0, 0, 7, 343);
        fit(of(1, 2, 4, 1, 2), 0, 1, 7, 49);
        fit(of(1, 1, 2, 3, 5), 0, 0, 1, 7);
        fit(of(0, 0, 1, 0), 0, 0, 0, 49);
        fit(of(0, 0, 0, 1), 0, 0, 0, 0);
    }

    private static void byTryingAll() {
        Random random = new Random(5);
        for (int round = 0; round < 60; round++) {
            FarSide x = new FarSide();
            Model model = new Model();
            int most = random.nextInt(7) + 1;
            for (int i = random.nextInt(17); i > 0; i--) {
                int value = random.nextInt(most);
                x.entry(value);
                model.entry(value);
            }
            if (random.nextBoolean()) {
                for (int i = 0; i < 8; i++) {
                    int next = model.law(9);
                    x.entry(next);
                    model.entry(next);
                }
            }
            int[] want = new int[10];
            for (int what = 0; what < 10; what += what == 0 ? 9 : 1) {
                want[what] = model.law(what);
                Due.is("law(" + what + ") of " + model.s.entries, x.law(what), want[what]);
            }
            int ahead = 1 + random.nextInt(8);
            Due.is("law(" + ahead + ") of " + model.s.entries, x.law(ahead), model.law(ahead));
            for (int of = 0; of < 4; of++) {
                Due.is("fits(" + of + ") of " + model.s.entries, x.fits(of), model.fits(of));
            }
        }
    }
}
