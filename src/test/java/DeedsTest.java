// Promises 10 to 17: biting, coming back, walking, buying, hours, texts that are played, years, and taking back.
public final class DeedsTest {
    public static void main(String[] args) {
        bite();
        come();
        walk();
        buy();
        hour();
        hourByLaw();
        lastHour();
        played();
        playedHours();
        years();
        yearsByHand();
        yearsOfPeople();
        undo();
        undoOfEach();
        Due.end();
    }

    private static FarSide row() {
        FarSide x = new FarSide();
        for (int place = 0; place < 7; place++) {
            x.behind(place, place + 1);
        }
        x.behind(7, 0);
        return x;
    }

    private static void parts(FarSide x, int person, int... want) {
        for (int what = 0; what < want.length; what++) {
            Due.is("of(" + person + ", " + what + ")", x.of(person, what), want[what]);
        }
    }

    private static void line(FarSide x, int i, int... want) {
        for (int what = 0; what < 4; what++) {
            Due.is("book(" + i + ", " + what + ")", x.book(i, what), want[what]);
        }
    }

    // Promise 10.
    private static void bite() {
        FarSide x = row();
        Due.is("bite of nobody", x.bite(0), -1);
        x.person(3, 10);
        x.person(3, 0);
        x.hour(2);
        Due.is("bite(-1)", x.bite(-1), -1);
        Due.is("bite(2)", x.bite(2), -1);
        Due.is("bite(MAX)", x.bite(Integer.MAX_VALUE), -1);
        Due.is("bite without cloves", x.bite(1), -1);
        Due.is("those are no steps", x.about(3), 2);
        Due.is("bite", x.bite(0), 4);
        parts(x, 0, 4, 3, 1, 9, 0);
        line(x, 0, 2, 0, 0, 4);
        Due.is("it is a step", x.about(3), 3);
        int[] places = {5, 6, 7, 0, 1, 2, 3};
        for (int place : places) {
            Due.is("bite deeper", x.bite(0), place);
        }
        Due.is("depth 8", x.of(0, 2), 8);
        Due.is("bite below 8", x.bite(0), -1);
        parts(x, 0, 3, 3, 8, 2, 0);
        Due.is("eight lines", x.book(-1, 0), 8);
        FarSide y = new FarSide();
        y.person(0, 5);
        Due.read(y, "bites 3 - cloves;");
        y.by(0);
        Due.is("bites says less than 0", y.bite(0), -1);
        Due.read(y, "bites cloves - 5;");
        y.by(1);
        Due.is("bites says 0", y.bite(0), -1);
        Due.read(y, "bites cloves - 4;");
        y.by(2);
        Due.is("bites says 1", y.bite(0), 0);
        Due.is("bites says 0 then", y.bite(0), -1);
    }

    // Promise 11.
    private static void come() {
        FarSide x = row();
        Due.is("come of nobody", x.come(0), -1);
        x.person(7, 2);
        Due.is("come at depth 0", x.come(0), -1);
        x.bite(0);
        x.bite(0);
        x.hour(0);
        Due.is("come(-1)", x.come(-1), -1);
        Due.is("come(1)", x.come(1), -1);
        Due.is("come", x.come(0), 0);
        parts(x, 0, 0, 7, 1, 0, 0);
        line(x, 2, 0, 0, 1, 0);
        Due.is("come again", x.come(0), 7);
        Due.is("come at depth 0 again", x.come(0), -1);
        Due.is("steps", x.about(3), 4);
        Due.is("lines", x.book(-1, 0), 4);
    }

    // Promise 12.
    private static void walk() {
        FarSide x = row();
        Due.no("walk of nobody", x.walk(0, 1));
        x.person(3, 1);
        x.hour(4);
        Due.no("walk to where it is", x.walk(0, 3));
        Due.no("walk(0, 8)", x.walk(0, 8));
        Due.no("walk(0, -1)", x.walk(0, -1));
        Due.no("walk(1, 0)", x.walk(1, 0));
        Due.no("walk(-1, 0)", x.walk(-1, 0));
        Due.is("those are no steps", x.about(3), 4);
        Due.yes("walk(0, 7)", x.walk(0, 7));
        parts(x, 0, 7, 7, 0, 1, 0);
        line(x, 0, 4, 0, 2, 7);
        Due.is("it is a step", x.about(3), 5);
        x.bite(0);
        Due.no("walk at depth 1", x.walk(0, 2));
        Due.is("base as it was", x.of(0, 1), 7);
        x.come(0);
        Due.yes("walk(0, 0)", x.walk(0, 0));
    }

    // Promise 13.
    private static void buy() {
        FarSide x = row();
        Due.no("buy of nobody", x.buy(0, 1));
        x.person(0, 0);
        x.person(0, 98);
        x.hour(3);
        Due.no("buy 0", x.buy(0, 0));
        Due.no("buy 100", x.buy(0, 100));
        Due.no("buy -1", x.buy(0, -1));
        Due.no("buy MAX", x.buy(1, Integer.MAX_VALUE));
        Due.no("buy beyond 99", x.buy(1, 2));
        Due.no("buy of nobody there", x.buy(2, 1));
        Due.no("buy(-1, 1)", x.buy(-1, 1));
        Due.is("those are no steps", x.about(3), 3);
        Due.yes("buy 99", x.buy(0, 99));
        Due.yes("buy 1", x.buy(1, 1));
        Due.no("buy one more", x.buy(1, 1));
        parts(x, 0, 0, 0, 0, 99, 3);
        parts(x, 1, 0, 0, 0, 99, 3);
        Due.is("steps", x.about(3), 5);
        Due.is("it isn't written down", x.book(-1, 0), 0);
    }

    // Promise 14. The draws from 383 on: 3, 1, 9, 3, 4, 5; X: 383, 29751, 9909, 19103, 11894, 24875.
    private static void hour() {
        FarSide x = row();
        x.person(0, 9);
        x.person(4, 9);
        Due.is("hour(0)", x.hour(0), -1);
        Due.is("hour(61)", x.hour(61), -1);
        Due.is("hour(-1)", x.hour(-1), -1);
        Due.is("nothing is done", x.is(0), 0);
        Due.is("hours where all are at home", x.hour(2), 0);
        Due.is("nobody draws then", x.is(1), 383);
        Due.is("since", x.of(0, 4), 2);
        x.bite(0);
        x.bite(1);
        Due.is("draws 3 and 1 by returns 3", x.hour(1), 1);
        Due.is("X behind two draws", x.is(1), 9909);
        parts(x, 0, 1, 0, 1, 8, 1);
        parts(x, 1, 4, 4, 0, 8, 0);
        line(x, 2, 2, 1, 1, 4);
        Due.is("the hour is one more", x.is(0), 3);
        Due.is("draws 9, 3, 4 by 3", x.hour(3), 0);
        Due.is("X behind five", x.is(1), 24875);
        parts(x, 0, 1, 0, 1, 8, 4);
        Due.is("since of one at home", x.of(1, 4), 3);
        Due.is("each hour is a step", x.about(3), 8);
        FarSide y = row();
        y.person(0, 9);
        y.hour(60);
        y.hour(39);
        Due.is("since 99", y.of(0, 4), 99);
        y.hour(1);
        Due.is("since is 99 at most", y.of(0, 4), 99);
        FarSide z = row();
        z.person(0, 9);
        z.bite(0);
        Due.read(z, "returns 0;");
        z.by(0);
        Due.is("hours of returns 0", z.hour(60), 0);
        z.hour(60);
        Due.is("since of one who is away is 99 at most", z.of(0, 4), 99);
    }

    private static void hourByLaw() {
        FarSide x = row();
        x.person(0, 9);
        x.person(0, 9);
        x.bite(0);
        x.bite(1);
        x.bite(1);
        Due.read(x, "returns if who = 1 then (1 - deep 0) * 10 else 10 end;");
        x.by(0);
        Due.is("the second sees that the first has come back", x.hour(1), 2);
        Due.is("it is at depth 1 then", x.of(1, 2), 1);
        FarSide y = row();
        y.person(0, 9);
        y.bite(0);
        Due.read(y, "returns hour * 10;");
        y.by(0);
        Due.is("the hour is as it was ahead of being one more", y.hour(1), 0);
        Due.is("returns 10 in hour 1", y.hour(1), 1);
        Due.is("the line's hour", y.book(1, 0), 1);
        FarSide z = row();
        z.person(0, 9);
        z.bite(0);
        z.bite(0);
        z.bite(0);
        Due.read(z, "returns 10;");
        z.by(0);
        Due.is("one place in each hour", z.hour(2), 2);
        Due.is("it is at depth 1", z.of(0, 2), 1);
        Due.is("since is 0 for it", z.of(0, 4), 0);
    }

    private static void lastHour() {
        FarSide x = row();
        x.person(0, 3);
        for (int i = 0; i < 166; i++) {
            x.hour(60);
        }
        Due.is("hour 9960", x.is(0), 9960);
        Due.is("beyond 9999", x.hour(40), -1);
        Due.is("nothing is done", x.is(0), 9960);
        Due.is("hour(39) to just 9999", x.hour(39), 0);
        Due.is("none beyond", x.hour(1), -1);
        x.undo();
        Due.is("beyond 9999 by one", x.hour(2), -1);
        Due.read(x, "bite 0; hour 3; bite 0;");
        Due.is("played: of three hours one passes", x.played(0), 1);
        Due.is("hour 9999", x.is(0), 9999);
        Due.is("none can pass", x.hour(1), -1);
        Due.is("bites still can be", x.bite(0), 2);
        int depth = x.of(0, 2);
        Due.is("foretold stays as it is", x.foretold(60, 0), depth);
        Due.is("years: no hour can pass", x.years(7, 40), 9999);
        Due.is("hour 9999 in the book", x.book(x.book(-1, 0) - 1, 0), 9999);
        x.undo();
        x.undo();
        x.undo();
        Due.is("the last hour is taken back", x.is(0), 9998);
    }

    // Promise 15.
    private static void played() {
        FarSide x = new FarSide();
        Due.is("played(0) without texts", x.played(0), -2);
        Due.read(x, "bites 1; person 2 cloves 3; returns 0; place 5 behind 2; bite 0; come 0; walk 0 to 6; bite 0;");
        Due.is("played(-1)", x.played(-1), -2);
        Due.is("played(1)", x.played(1), -2);
        Due.is("all is done", x.played(0), -1);
        parts(x, 0, 6, 6, 1, 1, 0);
        Due.is("5 is behind 2", x.place(2, 0), 5);
        Due.is("2 is behind 2 no more, 5 behind itself", x.place(5, 0), 5);
        Due.is("four steps", x.about(3), 4);
        Due.is("it doesn't rule", x.about(2), -1);
        Due.is("returns as without", x.of(0, 6), 3);
        line(x, 0, 0, 0, 0, 5);
        Due.is("the second time person 0 is too deep to walk", x.played(0), 6);
        Due.is("what was done stays", x.about(0), 2);
        Due.is("bitten, and come back", x.about(3), 6);
        FarSide y = new FarSide();
        Due.read(y, "");
        Due.read(y, "bites 0; returns 3;");
        Due.read(y, "person 0 cloves 1;person 0 cloves 1;person 0 cloves 1;person 0 cloves 1;person 0 cloves 1;person 0 cloves 1;");
        Due.is("nothing to do", y.played(0), -1);
        Due.is("laws alone", y.played(1), -1);
        Due.is("a sixth person", y.played(2), 5);
        y.by(1);
        Due.read(y, "bites 9; walk 0 to 1; bite 0;");
        Due.is("the text that rules says whether one bites", y.played(3), 2);
        y.by(3);
        Due.is("there it is already", y.played(3), 1);
    }

    private static void playedHours() {
        FarSide x = new FarSide();
        x.person(0, 5);
        Due.read(x, "hour 3; bite 4; hour 1;");
        Due.is("no such person", x.played(0), 1);
        Due.is("three hours", x.is(0), 3);
        Due.is("three steps", x.about(3), 3);
        Due.read(x, "come 0;");
        Due.is("nobody to come back", x.played(1), 0);
        Due.read(x, "returns 10; bite 0; bite 0; hour 60;");
        x.by(2);
        Due.is("hours as by hand", x.played(2), -1);
        Due.is("it came back in two of them", x.of(0, 2), 0);
        Due.is("hour 63", x.is(0), 63);
    }

    // Promise 16.
    private static void years() {
        FarSide x = new FarSide();
        Due.is("years(-1, 1)", x.years(-1, 1), -1);
        Due.is("years(10000, 1)", x.years(10000, 1), -1);
        Due.is("years(0, 0)", x.years(0, 0), -1);
        Due.is("years(0, 41)", x.years(0, 41), -1);
        Due.is("no steps", x.about(3), 0);
        Due.is("years(0, 1): x 383, 383 mod 6 is 5", x.years(0, 1), 1);
        Due.is("X", x.is(1), 29751);
        Due.is("a step", x.about(3), 1);
        Due.is("years(9999, 1): 20381 mod 6 is 5", x.years(9999, 1), 2);
        Due.is("X from 20381 on", x.is(1), (20381 * 641 + 499) % 30893);
        x.undo();
        Due.is("X as ahead of it", x.is(1), 29751);
        Due.is("undo of years", x.undo(), 0);
        Due.is("hour 0", x.is(0), 0);
        Due.is("X 383", x.is(1), 383);
    }

    // From 383 on: x 383 (5: an hour), 29751 (3: walked), 9909 (3: walked), 19103 (5: an hour), 11894 (2: come back).
    private static void yearsByHand() {
        FarSide x = row();
        x.person(0, 4);
        x.person(7, 4);
        Due.is("years(0, 2)", x.years(0, 2), 1);
        // 29751 / 6 is 4958: person 0; 29751 mod 8 is 7.
        parts(x, 0, 7, 7, 0, 4, 0);
        parts(x, 1, 7, 7, 0, 4, 1);
        line(x, 0, 1, 0, 2, 7);
        x.undo();
        Due.is("one step", x.about(3), 0);
        Due.is("years(0, 5)", x.years(0, 5), 2);
        // 9909 / 6 is 1651: person 1; 9909 mod 8 is 5.
        Due.is("person 1 has walked", x.of(1, 0), 5);
        Due.is("lines", x.book(-1, 0), 2);
        // Seed 5: x 393, 393 mod 6 is 3. Seed 2: 387, 3. Seed 3: 389, 5. Seed 1: 385, 1: bitten; 385 / 6 is 64.
        FarSide y = row();
        y.person(2, 4);
        y.person(3, 4);
        y.person(4, 4);
        Due.is("years(1, 1)", y.years(1, 1), 0);
        parts(y, 1, 4, 3, 1, 3, 0);
        line(y, 0, 0, 1, 0, 4);
        // A draw of an hour in YEARS comes from the same X: from 389 on, an hour with person 1 away.
        Due.is("years(3, 1)", y.years(3, 1), 1);
        int behindYears = (389 * 641 + 499) % 30893;
        Due.is("X behind an hour with a draw", y.is(1), (behindYears * 641 + 499) % 30893);
        // A person who can't bite doesn't.
        Due.read(y, "bites 0;");
        y.by(0);
        int lines = y.book(-1, 0);
        y.years(1, 1);
        Due.is("it can't be", y.book(-1, 0), lines);
        Due.is("a step all the same", y.about(3), 3);
        // 11894 mod 6 is 2, 11894 / 6 is 1982: of one person, person 0 comes back, if it is away.
        FarSide z = row();
        z.person(0, 1);
        z.bite(0);
        Due.read(z, "returns 0;");
        z.by(0);
        z.years(0, 4);
        Due.is("walking can't be at depth 1, nobody is brought back", z.of(0, 2), 1);
        z.undo();
        z.years(0, 5);
        // Hours draw from X too: 383 (an hour, that draws 29751), 9909 (walking), 19103 (an hour, 11894),
        // 24875 (an hour, 4586), 5290 (an hour).
        Due.is("four hours", z.is(0), 4);
    }

    // Seed 148: x 679 (1: bitten; 113 mod 3 is 2), 3236 (2: come back; 539 mod 3 is 2).
    // Seed 100: x 583 (1: bitten; 97 mod 3 is 1), 3486 (0: bitten; 581 mod 3 is 2).
    private static void yearsOfPeople() {
        FarSide x = row();
        for (int person = 0; person < 3; person++) {
            x.person(person, 5);
        }
        x.hour(1);
        x.years(148, 1);
        parts(x, 2, 3, 2, 1, 4, 0);
        x.undo();
        parts(x, 2, 2, 2, 0, 5, 1);
        Due.is("years(148, 2)", x.years(148, 2), 1);
        parts(x, 2, 2, 2, 0, 4, 0);
        line(x, 0, 1, 2, 0, 3);
        line(x, 1, 1, 2, 1, 2);
        x.undo();
        x.years(100, 2);
        Due.is("depth of 0", x.of(0, 2), 0);
        Due.is("depth of 1", x.of(1, 2), 1);
        Due.is("depth of 2", x.of(2, 2), 1);
        Due.is("one step for both", x.undo(), 1);
        Due.is("nobody is away", x.away(), 0);
        Due.is("no lines", x.book(-1, 0), 0);
        // From 383 on without hours' draws: kinds 5, 3, 3, 5, 2, 5, 2, 4, 4, 4, 1, 1.
        FarSide nobody = row();
        Due.is("hours of nobody", nobody.years(0, 12), 6);
        Due.is("no lines of nobody", nobody.book(-1, 0), 0);
        Due.is("years of nobody", row().years(0, 9), 5);
    }

    // Promise 17.
    private static void undo() {
        FarSide x = row();
        Due.is("undo of nothing", x.undo(), -1);
        x.person(0, 99);
        x.hour(60);
        Due.is("30 steps at most", x.about(3), 30);
        Due.is("undo", x.undo(), 29);
        Due.is("hour 59", x.is(0), 59);
        for (int left = 28; left >= 0; left--) {
            Due.is("undo", x.undo(), left);
        }
        Due.is("no more", x.undo(), -1);
        Due.is("hour 30", x.is(0), 30);
        Due.is("since 30", x.of(0, 4), 30);
        x.bite(0);
        Due.is("a step again", x.about(3), 1);
        Due.is("undo it", x.undo(), 0);
    }

    private static void undoOfEach() {
        FarSide x = row();
        x.person(0, 10);
        x.hour(2);
        x.bite(0);
        x.come(0);
        x.walk(0, 5);
        x.buy(0, 3);
        x.person(6, 44);
        x.joy(6, 3);
        x.entry(4);
        Due.is("steps", x.about(3), 6);
        x.undo();
        Due.is("cloves as ahead of buying", x.of(0, 3), 9);
        Due.is("who is told since is as told", x.of(1, 3), 44);
        x.undo();
        parts(x, 0, 0, 0, 0, 9, 0);
        Due.is("lines as ahead of walking", x.book(-1, 0), 2);
        x.undo();
        parts(x, 0, 1, 0, 1, 9, 0);
        Due.is("lines as ahead of coming", x.book(-1, 0), 1);
        x.undo();
        parts(x, 0, 0, 0, 0, 10, 2);
        Due.is("no lines", x.book(-1, 0), 0);
        x.undo();
        Due.is("hour 1", x.is(0), 1);
        Due.is("since 1", x.of(0, 4), 1);
        Due.is("joy isn't taken back", x.place(6, 1), 3);
        Due.is("entries aren't taken back", x.about(6), 1);
        Due.is("people aren't taken back", x.about(0), 2);
        FarSide y = row();
        y.person(0, 2);
        y.bite(0);
        y.hour(1);
        Due.is("X behind a draw", y.is(1), 29751);
        y.undo();
        Due.is("X as ahead of the hour", y.is(1), 383);
        y.hour(1);
        Due.is("the same again", y.is(1), 29751);
        undoOfManyPeople();
        bookBeyond30();
    }

    private static void undoOfManyPeople() {
        FarSide x = row();
        for (int person = 0; person < 5; person++) {
            x.person(person, 10 + person);
        }
        for (int person = 0; person < 5; person++) {
            x.bite(person);
        }
        x.hour(2);
        x.undo();
        x.undo();
        for (int person = 4; person >= 0; person--) {
            Due.is("undo of " + person, x.undo(), person);
            parts(x, person, person, person, 0, 10 + person, 0);
        }
    }

    private static void bookBeyond30() {
        FarSide x = row();
        x.person(0, 0);
        for (int i = 1; i <= 31; i++) {
            x.hour(1);
            x.walk(0, i % 8);
        }
        Due.is("30 lines at most", x.book(-1, 0), 30);
        Due.is("the eldest is gone", x.book(0, 0), 2);
        for (int i = 0; i < 30; i++) {
            line(x, i, i + 2, 0, 2, (i + 2) % 8);
        }
        x.undo();
        Due.is("the eldest is there again", x.book(0, 0), 1);
        Due.is("30 lines", x.book(-1, 0), 30);
        Due.is("the latest is gone", x.book(29, 0), 30);
    }
}
