// Promises 38 to 41: what hours are worth, what to do first, odds of depths, and longing.
public final class OutlookTest {
    public static void main(String[] args) {
        worth();
        best();
        likely();
        longing();
        Due.end();
    }

    private static FarSide row(int... joys) {
        FarSide x = new FarSide();
        for (int place = 0; place < 7; place++) {
            x.behind(place, place + 1);
        }
        for (int place = 0; place < joys.length; place++) {
            x.joy(place, joys[place]);
        }
        return x;
    }

    // Promise 38.
    private static void worth() {
        FarSide x = row(1, -2, 4, 9);
        Due.is("worth of nobody", x.worth(0, 1), -10000);
        x.person(0, 2);
        Due.is("worth(0, -1)", x.worth(0, -1), -10000);
        Due.is("worth(0, 21)", x.worth(0, 21), -10000);
        Due.is("worth(1, 1)", x.worth(1, 1), -10000);
        Due.is("worth(-1, 1)", x.worth(-1, 1), -10000);
        Due.is("worth(0, 0)", x.worth(0, 0), 0);
        Due.is("one hour: it stays", x.worth(0, 1), 1);
        Due.is("two: -2 + 4, or 1 + 1", x.worth(0, 2), 2);
        Due.is("three: -2 + 4 + 4", x.worth(0, 3), 6);
        Due.is("twenty, with two cloves", x.worth(0, 20), -2 + 19 * 4);
        x.buy(0, 1);
        Due.is("three with three: -2 + 4 + 9", x.worth(0, 3), 11);
        Due.is("twenty with three", x.worth(0, 20), -2 + 4 + 18 * 9);
        Due.is("nothing is done", x.of(0, 2), 0);
        Due.read(x, "bites -5; returns 10;");
        x.by(0);
        Due.is("bites and returns are no matter", x.worth(0, 3), 11);
        FarSide y = row(-9, -9, -9, -9, -9, -9, -9, -9);
        y.person(0, 0);
        Due.is("the worst", y.worth(0, 20), -180);
        FarSide z = row(9, -9, -9);
        z.person(0, 2);
        z.bite(0);
        z.bite(0);
        Due.is("it comes back: -9 + 9 + 9", z.worth(0, 3), 9);
        z.come(0);
        Due.is("at once: 9 + 9", z.worth(0, 2), 18);
        deep();
    }

    private static void deep() {
        FarSide x = new FarSide();
        x.behind(0, 1);
        x.behind(1, 0);
        x.joy(0, -1);
        x.joy(1, 5);
        x.person(0, 99);
        for (int i = 0; i < 8; i++) {
            x.bite(0);
        }
        Due.is("depth 8 can't be deeper: it comes back", x.worth(0, 1), 5);
        Due.is("and stays", x.worth(0, 20), 100);
        FarSide y = row(0, 0, 0, 0, 0, 0, 0, 2);
        y.person(0, 99);
        Due.is("seven bites to the last", y.worth(0, 20), 14 * 2);
        Due.is("seven hours", y.worth(0, 7), 2);
        Due.is("six hours", y.worth(0, 6), 0);
    }

    // Promise 39.
    private static void best() {
        FarSide x = row(1, -2, 4, 9);
        Due.is("best of nobody", x.best(0, 1), -1);
        x.person(0, 2);
        Due.is("best(0, 0)", x.best(0, 0), -1);
        Due.is("best(0, 21)", x.best(0, 21), -1);
        Due.is("best(0, -1)", x.best(0, -1), -1);
        Due.is("best(1, 1)", x.best(1, 1), -1);
        Due.is("best(-1, 1)", x.best(-1, 1), -1);
        Due.is("one hour: it stays", x.best(0, 1), 0);
        Due.is("two, alike: the lowest", x.best(0, 2), 0);
        Due.is("three: it bites", x.best(0, 3), 1);
        x.bite(0);
        Due.is("it bites again", x.best(0, 3), 1);
        x.bite(0);
        Due.is("it stays", x.best(0, 20), 0);
        x.joy(2, -9);
        x.joy(3, -9);
        Due.is("it comes back", x.best(0, 20), 2);
        Due.is("for one hour, too", x.best(0, 1), 2);
        FarSide y = row(3, 3, 3);
        y.person(0, 5);
        y.bite(0);
        Due.is("all alike: it stays", y.best(0, 20), 0);
        FarSide z = row(3, -1, 3);
        z.person(0, 5);
        z.bite(0);
        Due.is("to bite or to come back: to bite", z.best(0, 1), 1);
    }

    private static void odds(FarSide x, int n, int depth, long upper, long lower) {
        Due.is("likely(0, " + n + ", " + depth + ", false)", x.likely(0, n, depth, false), upper);
        Due.is("likely(0, " + n + ", " + depth + ", true)", x.likely(0, n, depth, true), lower);
    }

    // Promise 40.
    private static void likely() {
        FarSide x = row();
        Due.is("likely of nobody", x.likely(0, 1, 0, false), -1);
        x.person(0, 9);
        odds(x, 0, 0, 1, 1);
        odds(x, 6, 0, 1, 1);
        odds(x, 6, 1, 0, 1);
        x.bite(0);
        x.bite(0);
        x.bite(0);
        // Returns 5: each hour even odds.
        odds(x, 0, 3, 1, 1);
        odds(x, 0, 2, 0, 1);
        odds(x, 1, 3, 1, 2);
        odds(x, 1, 2, 1, 2);
        odds(x, 2, 2, 1, 2);
        odds(x, 2, 1, 1, 4);
        odds(x, 3, 0, 1, 8);
        odds(x, 4, 0, 5, 16);
        odds(x, 6, 0, 21, 32);
        odds(x, 6, 3, 1, 64);
        odds(x, 6, 8, 0, 1);
        Due.is("likely(0, -1, 0)", x.likely(0, -1, 0, true), -1);
        Due.is("likely(0, 7, 0)", x.likely(0, 7, 0, true), -1);
        Due.is("likely(0, 1, -1)", x.likely(0, 1, -1, true), -1);
        Due.is("likely(0, 1, 9)", x.likely(0, 1, 9, true), -1);
        Due.is("likely(1, 1, 0)", x.likely(1, 1, 0, true), -1);
        Due.is("likely(-1, 1, 0)", x.likely(-1, 1, 0, true), -1);
        Due.read(x, "returns 10 - depth;");
        x.by(0);
        odds(x, 2, 1, 49, 100);
        odds(x, 6, 3, 729, 1000000);
        Due.read(x, "returns 0;");
        x.by(1);
        odds(x, 6, 3, 1, 1);
        odds(x, 6, 0, 0, 1);
        Due.read(x, "returns 10;");
        x.by(2);
        odds(x, 2, 1, 1, 1);
        odds(x, 6, 0, 1, 1);
        for (int i = 0; i < 5; i++) {
            x.bite(0);
        }
        odds(x, 6, 2, 1, 1);
        x.by(1);
        odds(x, 6, 8, 1, 1);
    }

    private static void longs(FarSide x, int upper, int lower) {
        Due.is("longing(0, false)", x.longing(0, false), upper);
        Due.is("longing(0, true)", x.longing(0, true), lower);
    }

    // Promise 41.
    private static void longing() {
        FarSide x = row();
        Due.is("longing of nobody", x.longing(0, true), -1);
        x.person(0, 9);
        longs(x, 0, 1);
        x.bite(0);
        longs(x, 10, 3);
        x.bite(0);
        longs(x, 5, 1);
        x.bite(0);
        longs(x, 6, 1);
        for (int i = 0; i < 5; i++) {
            x.bite(0);
        }
        longs(x, 8, 1);
        Due.read(x, "returns 0;");
        Due.read(x, "returns 3 + hour;");
        x.by(0);
        longs(x, -1, -1);
        x.by(1);
        longs(x, 80, 3);
        for (int i = 0; i < 8; i++) {
            x.come(0);
        }
        x.by(0);
        longs(x, 0, 1);
        Due.is("longing(1, true)", x.longing(1, true), -1);
        Due.is("longing(-1, false)", x.longing(-1, false), -1);
    }
}
