// Promises 18 to 22, 44 to 48 and 51: what is seen of people, places, the book, and what is foretold.
public final class LookingTest {
    public static void main(String[] args) {
        of();
        place();
        is();
        book();
        foretold();
        deepest();
        away();
        alone();
        gladdest();
        ledger();
        about();
        Due.end();
    }

    private static FarSide row() {
        FarSide x = new FarSide();
        for (int place = 0; place < 7; place++) {
            x.behind(place, place + 1);
        }
        return x;
    }

    // Promise 18; its laws are LawTest's.
    private static void of() {
        FarSide x = row();
        Due.is("of nobody", x.of(0, 0), -100);
        x.person(2, 40);
        x.person(5, 2);
        x.hour(3);
        x.bite(0);
        x.bite(0);
        int[] want = {4, 2, 2, 38, 0, 1, 4};
        for (int what = 0; what < want.length; what++) {
            Due.is("of(0, " + what + ")", x.of(0, what), want[what]);
        }
        Due.is("of(1, 4)", x.of(1, 4), 3);
        Due.is("of(0, 7)", x.of(0, 7), -100);
        Due.is("of(0, -1)", x.of(0, -1), -100);
        Due.is("of(-1, 0)", x.of(-1, 0), -100);
        Due.is("of(2, 0)", x.of(2, 0), -100);
        Due.is("of(MAX, MIN)", x.of(Integer.MAX_VALUE, Integer.MIN_VALUE), -100);
    }

    // Promise 19.
    private static void place() {
        FarSide x = row();
        x.joy(3, -4);
        x.person(3, 5);
        x.person(1, 5);
        x.person(3, 5);
        x.person(4, 5);
        x.bite(1);
        x.bite(1);
        Due.is("place(3, 0)", x.place(3, 0), 4);
        Due.is("place(7, 0)", x.place(7, 0), 7);
        Due.is("place(3, 1)", x.place(3, 1), -4);
        Due.is("place(3, 2)", x.place(3, 2), 7);
        Due.is("place(1, 2)", x.place(1, 2), 0);
        Due.is("place(4, 2)", x.place(4, 2), 8);
        Due.is("place(3, 3)", x.place(3, 3), -100);
        Due.is("place(3, -1)", x.place(3, -1), -100);
        Due.is("place(8, 0)", x.place(8, 0), -100);
        Due.is("place(-1, 0)", x.place(-1, 0), -100);
    }

    // Promise 20.
    private static void is() {
        FarSide x = row();
        x.person(3, 5);
        x.person(1, 7);
        x.person(1, 0);
        x.hour(4);
        x.bite(0);
        x.bite(1);
        x.bite(1);
        Due.is("hour", x.is(0), 4);
        Due.is("X", x.is(1), 383);
        Due.is("cloves", x.is(2), 9);
        Due.is("depths", x.is(3), 3);
        Due.is("is(4)", x.is(4), -2);
        Due.is("is(-1)", x.is(-1), -2);
        Due.is("is(MIN)", x.is(Integer.MIN_VALUE), -2);
        x.hour(1);
        // Draws 3 (returns 3) and 1 (returns 4): the second comes back.
        Due.is("X behind two draws", x.is(1), 9909);
        Due.is("depths behind an hour", x.is(3), 2);
        Due.is("cloves as before", x.is(2), 9);
    }

    // Promise 21.
    private static void book() {
        FarSide x = row();
        Due.is("book(-1, 0)", x.book(-1, 0), 0);
        Due.is("book(0, 0) of none", x.book(0, 0), -2);
        x.person(0, 5);
        x.person(6, 5);
        x.walk(1, 2);
        x.hour(7);
        x.bite(1);
        x.buy(1, 2);
        x.come(1);
        Due.is("lines", x.book(-1, 0), 3);
        Due.is("lines, whatever is asked of them", x.book(-1, 9), 3);
        int[][] want = {{0, 1, 2, 2}, {7, 1, 0, 3}, {7, 1, 1, 2}};
        for (int i = 0; i < want.length; i++) {
            for (int what = 0; what < 4; what++) {
                Due.is("book(" + i + ", " + what + ")", x.book(i, what), want[i][what]);
            }
        }
        Due.is("book(3, 0)", x.book(3, 0), -2);
        Due.is("book(0, 4)", x.book(0, 4), -2);
        Due.is("book(0, -1)", x.book(0, -1), -2);
        Due.is("book(-2, 0)", x.book(-2, 0), -2);
        Due.is("book(30, 0)", x.book(30, 0), -2);
        Due.is("book(MAX, 0)", x.book(Integer.MAX_VALUE, 0), -2);
    }

    // Promise 22.
    private static void foretold() {
        FarSide x = row();
        Due.is("foretold of nobody", x.foretold(1, 0), -1);
        x.person(0, 8);
        x.person(0, 8);
        x.bite(0);
        x.bite(0);
        x.bite(1);
        Due.is("foretold(0, 0)", x.foretold(0, 0), -1);
        Due.is("foretold(61, 0)", x.foretold(61, 0), -1);
        Due.is("foretold(1, 2)", x.foretold(1, 2), -1);
        Due.is("foretold(1, -1)", x.foretold(1, -1), -1);
        // Hour 0: draws 3 below 4: back; 1 below 3: back. Hour 1: draw 9: stays.
        Due.is("foretold(1, 0)", x.foretold(1, 0), 1);
        Due.is("foretold(1, 1)", x.foretold(1, 1), 0);
        Due.is("foretold(2, 0)", x.foretold(2, 0), 1);
        Due.is("X is as it was", x.is(1), 383);
        Due.is("the hour is as it was", x.is(0), 0);
        Due.is("the book is as it was", x.book(-1, 0), 3);
        Due.is("the steps are as they were", x.about(3), 3);
        Due.is("depth is as it was", x.of(0, 2), 2);
        FarSide y = row();
        y.person(0, 8);
        for (int i = 0; i < 5; i++) {
            y.bite(0);
        }
        Due.read(y, "returns 10;");
        y.by(0);
        for (int n = 1; n <= 6; n++) {
            Due.is("foretold(" + n + ", 0), one back in each", y.foretold(n, 0), Math.max(0, 5 - n));
        }
        int later = x.foretold(60, 0);
        x.hour(60);
        Due.is("it comes so", x.of(0, 2), later);
    }

    // Promise 44.
    private static void deepest() {
        FarSide x = row();
        Due.is("deepest of nobody", x.deepest(), -1);
        x.person(0, 9);
        x.person(0, 9);
        x.person(0, 9);
        Due.is("nobody is away", x.deepest(), -1);
        x.bite(2);
        Due.is("2 is", x.deepest(), 2);
        x.bite(0);
        Due.is("0 is, as it is lower", x.deepest(), 0);
        x.come(0);
        x.bite(1);
        Due.is("of like ones the lowest", x.deepest(), 1);
        x.bite(2);
        Due.is("2 is deeper", x.deepest(), 2);
    }

    // Promise 45.
    private static void away() {
        FarSide x = row();
        x.person(7, 9);
        x.person(0, 9);
        x.person(0, 9);
        Due.is("nobody", x.away(), 0);
        x.bite(0);
        x.bite(2);
        x.bite(2);
        Due.is("0, which is in its own place, and 2", x.away(), 5);
        x.come(0);
        x.come(2);
        Due.is("2", x.away(), 4);
    }

    // Promise 46.
    private static void alone() {
        FarSide x = row();
        Due.is("nobody", x.alone(), 0);
        x.person(0, 9);
        Due.is("one alone", x.alone(), 1);
        x.person(1, 9);
        x.person(1, 9);
        Due.is("two in one place", x.alone(), 1);
        x.walk(2, 5);
        Due.is("each in its own", x.alone(), 7);
        x.walk(2, 1);
        x.bite(0);
        Due.is("three in one place", x.alone(), 0);
        x.bite(2);
        Due.is("2 goes deeper", x.alone(), 4);
    }

    // Promise 47.
    private static void gladdest() {
        FarSide x = row();
        Due.is("nobody", x.gladdest(), -1);
        for (int place = 0; place < 8; place++) {
            x.joy(place, -9);
        }
        x.person(0, 9);
        x.person(1, 9);
        Due.is("of like ones the lowest", x.gladdest(), 0);
        x.joy(2, -8);
        x.bite(1);
        Due.is("1, for the place it is in", x.gladdest(), 1);
        x.joy(0, 3);
        Due.is("0", x.gladdest(), 0);
    }

    // Promise 48.
    private static void ledger() {
        FarSide x = row();
        Due.is("none", x.ledger(0), 0);
        x.person(0, 9);
        x.bite(0);
        x.bite(0);
        x.come(0);
        x.come(0);
        x.bite(0);
        x.come(0);
        x.walk(0, 3);
        x.bite(0);
        Due.is("bitten", x.ledger(0), 4);
        Due.is("come back", x.ledger(1), 3);
        Due.is("walked", x.ledger(2), 1);
        Due.is("ledger(3)", x.ledger(3), -2);
        Due.is("ledger(-1)", x.ledger(-1), -2);
    }

    // Promise 51.
    private static void about() {
        FarSide x = row();
        x.person(0, 9);
        x.person(0, 9);
        Due.read(x, "bites 1;");
        Due.read(x, "bites 2;");
        Due.read(x, "bites 3;");
        x.by(1);
        for (int i = 0; i < 4; i++) {
            x.buy(0, 1);
        }
        for (int i = 0; i < 5; i++) {
            x.miss(i, i);
            x.entry(i);
            x.said(0, i);
        }
        x.meeting(20, 21);
        x.meeting(20, 21);
        x.said(1, 1);
        x.entry(1);
        x.entry(1);
        x.feed(0, 0, 0, 0, 0);
        x.end(13);
        int[] want = {2, 3, 1, 4, 5, 2, 7, 6, 13};
        for (int what = 0; what < want.length; what++) {
            Due.is("about(" + what + ")", x.about(what), want[what]);
        }
        Due.is("about(9)", x.about(9), -2);
        Due.is("about(-1)", x.about(-1), -2);
    }
}
