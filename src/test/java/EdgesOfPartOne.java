// Part I of the terms: places, people, what is done, hours, and steps.
final class EdgesOfPartOne {
    private EdgesOfPartOne() {
    }

    static void run() {
        Edges.term("PLACES 0 .. 7, BEHIND each a PLACE (told; at first itself)", EdgesOfPartOne::places);
        Edges.term("JOY -9 .. 9 (told; at first 0)", EdgesOfPartOne::joy);
        Edges.term("PEOPLE 0 .. 4 (told one by one)", EdgesOfPartOne::people);
        Edges.term("DEPTH 0 .. 8 (at first 0)", EdgesOfPartOne::depth);
        Edges.term("CLOVES 0 .. 99", EdgesOfPartOne::cloves);
        Edges.term("SINCE 0 .. 99 (HOURS since its DEPTH or BASE became so; at first 0)", EdgesOfPartOne::since);
        Edges.term("its PLACE is the one DEPTH times BEHIND its BASE", EdgesOfPartOne::placeOfPerson);
        Edges.term("HOUR 0 .. 9999 (at first 0).", EdgesOfPartOne::hours);
        Edges.term("X: at first 383.", EdgesOfPartOne::luck);
        Edges.term("BOOK (the latest 30): HOUR, PERSON, what, PLACE.", EdgesOfPartOne::book);
        Edges.term("a PERSON with CLOVES", EdgesOfPartOne::lastClove);
        Edges.term("DEPTH below 8", EdgesOfPartOne::below8);
        Edges.term("bites saying more than 0", EdgesOfPartOne::moreThan0);
        Edges.term("CLOVES one less, DEPTH 1 more.", EdgesOfPartOne::bitten);
        Edges.term("COME BACK: DEPTH 1 less.", EdgesOfPartOne::comeBack);
        Edges.term("WALKED: at DEPTH 0 BASE is another PLACE.", EdgesOfPartOne::walked);
        Edges.term("Of these SINCE is 0 then; they are written down.", EdgesOfPartOne::written);
        Edges.term("BOUGHT: CLOVES more.", EdgesOfPartOne::bought);
        Edges.term("PEOPLE by number whose DEPTH is above 0: a draw by 10", EdgesOfPartOne::whoDraws);
        Edges.term("X mod 10, X becoming (X * 641 + 499) mod 30893 behind it", EdgesOfPartOne::draws);
        Edges.term("below returns (as it is then): it has COME BACK", EdgesOfPartOne::belowReturns);
        Edges.term("(as it is then)", EdgesOfPartOne::asItIsThen);
        Edges.term("else SINCE is 1 more (99 at most)", EdgesOfPartOne::sinceOfOneAway);
        Edges.term("of others SINCE is 1 more, too.", EdgesOfPartOne::sinceOfOthers);
        Edges.term("HOUR is one more (at 9999 none can pass).", EdgesOfPartOne::lastHour);
        Edges.term("STEPS: BITTEN, COME BACK, WALKED, BOUGHT, an HOUR (each), YEARS (see V)", EdgesOfPartOne::kindsOfSteps);
        Edges.term("the latest 30 can be taken back, the latest first", EdgesOfPartOne::latest30);
        Edges.term("BASES, DEPTHS, CLOVES, SINCE, HOUR, X, BOOK are as ahead of it", EdgesOfPartOne::asAhead);
        Edges.term("PEOPLE told since are as told", EdgesOfPartOne::toldSince);
        Edges.term("The constants: `NONE = -1`: None.", EdgesOfPartOne::none);
    }

    private static void places() {
        FarSide x = new FarSide();
        for (int place = 0; place <= 7; place++) {
            Due.is("at first itself", x.place(place, 0), place);
        }
        Edges.refused(x, -100, () -> x.place(-1, 0), () -> x.place(8, 0));
        Due.yes("7 behind 0", x.behind(0, 7));
        Due.yes("0 behind 7", x.behind(7, 0));
        Edges.refused(x, 0, () -> Edges.bit(x.behind(0, 8)), () -> Edges.bit(x.behind(8, 0)),
            () -> Edges.bit(x.behind(0, -1)), () -> Edges.bit(x.behind(-1, 0)));
        Due.is("told", x.place(0, 0), 7);
        Due.is("told", x.place(7, 0), 0);
    }

    private static void joy() {
        FarSide x = new FarSide();
        for (int place = 0; place <= 7; place++) {
            Due.is("at first", x.place(place, 1), 0);
        }
        Due.yes("the least", x.joy(0, -9));
        Due.yes("the most", x.joy(7, 9));
        Edges.refused(x, 0, () -> Edges.bit(x.joy(0, -10)), () -> Edges.bit(x.joy(7, 10)));
        Due.is("told", x.place(0, 1), -9);
        Due.is("told", x.place(7, 1), 9);
    }

    private static void people() {
        FarSide x = new FarSide();
        Due.is("nobody at first", x.about(0), 0);
        for (int person = 0; person <= 4; person++) {
            Due.is("it isn't there yet", x.of(person, 0), -100);
            Due.is("one by one", x.person(person, 9), person);
            Due.is("there it is", x.of(person, 0), person);
        }
        Edges.refused(x, -1, () -> x.person(5, 9));
    }

    private static void depth() {
        FarSide x = Make.one(9);
        Due.is("at first", x.of(0, 2), 0);
        for (int depth = 1; depth <= 8; depth++) {
            x.bite(0);
            Due.is("depth", x.of(0, 2), depth);
        }
        Edges.refused(x, -1, () -> x.bite(0));
        for (int depth = 7; depth >= 0; depth--) {
            x.come(0);
            Due.is("depth", x.of(0, 2), depth);
        }
        Edges.refused(x, -1, () -> x.come(0));
    }

    private static void cloves() {
        FarSide x = Make.one(0);
        Due.is("none", x.of(0, 3), 0);
        Edges.refused(x, -1, () -> x.bite(0));
        Due.is("the most", x.of(x.person(0, 99), 3), 99);
        Edges.refused(x, 0, () -> Edges.bit(x.buy(1, 1)));
    }

    private static void since() {
        FarSide x = Make.ruled("returns 0;", 9);
        Due.is("at first", x.of(0, 4), 0);
        Make.pass(x, 98);
        Due.is("behind 98", x.of(0, 4), 98);
        x.hour(1);
        Due.is("behind 99", x.of(0, 4), 99);
        x.hour(1);
        Due.is("behind 100", x.of(0, 4), 99);
        x.buy(0, 1);
        x.behind(0, 5);
        x.joy(0, 5);
        Due.is("neither depth nor base became another", x.of(0, 4), 99);
        x.walk(0, 3);
        Due.is("the base became so", x.of(0, 4), 0);
        x.hour(2);
        Due.is("behind 2", x.of(0, 4), 2);
        x.bite(0);
        Due.is("the depth became so", x.of(0, 4), 0);
        x.hour(3);
        Due.is("behind 3", x.of(0, 4), 3);
        x.come(0);
        Due.is("the depth became so", x.of(0, 4), 0);
    }

    private static void placeOfPerson() {
        FarSide x = Make.ring();
        x.person(5, 9);
        Due.is("0 times", x.of(0, 0), 5);
        int[] places = {6, 7, 0, 1, 2, 3, 4, 5};
        for (int place : places) {
            x.bite(0);
            Due.is("round the ring", x.of(0, 0), place);
        }
        Due.is("the base is as it was", x.of(0, 1), 5);
        x.behind(4, 4);
        Due.is("8 times, as it is now", x.of(0, 0), 4);
        FarSide y = Make.row();
        y.person(6, 9);
        Make.bites(y, 0, 8);
        Due.is("the last is behind itself", y.of(0, 0), 7);
    }

    private static void hours() {
        FarSide x = Make.one(0);
        Due.is("at first", x.is(0), 0);
        Make.pass(x, 9998);
        Due.is("passed", x.is(0), 9998);
        Due.is("the last one", x.hour(1), 0);
        Due.is("the most", x.is(0), 9999);
        Edges.refused(x, -1, () -> x.hour(1), () -> x.hour(60));
    }

    private static void luck() {
        FarSide x = Make.one(9);
        Due.is("at first", x.is(1), 383);
        x.hour(1);
        x.walk(0, 1);
        x.bite(0);
        x.come(0);
        x.buy(0, 1);
        Due.is("without draws", x.is(1), 383);
    }

    private static void book() {
        FarSide x = Make.one(99);
        for (int line = 0; line < 29; line++) {
            x.hour(1);
            x.walk(0, (line + 1) % 8);
        }
        Due.is("29", x.book(-1, 0), 29);
        x.hour(1);
        x.walk(0, 6);
        Due.is("30", x.book(-1, 0), 30);
        Make.line(x, 0, 1, 0, 2, 1);
        Make.line(x, 29, 30, 0, 2, 6);
        x.hour(1);
        x.bite(0);
        Due.is("still 30", x.book(-1, 0), 30);
        Make.line(x, 0, 2, 0, 2, 2);
        Make.line(x, 28, 30, 0, 2, 6);
        Make.line(x, 29, 31, 0, 0, 7);
        Due.is("a line of those that have gone isn't counted", x.ledger(2), 29);
    }

    private static void lastClove() {
        FarSide x = Make.one(1);
        Due.is("the last one", x.bite(0), 1);
        Edges.refused(x, -1, () -> x.bite(0));
        x.come(0);
        Edges.refused(x, -1, () -> x.bite(0));
        x.buy(0, 1);
        Due.is("one again", x.bite(0), 1);
    }

    private static void below8() {
        FarSide x = Make.ring();
        x.person(0, 99);
        Make.bites(x, 0, 7);
        Due.is("at 7", x.bite(0), 0);
        Edges.refused(x, -1, () -> x.bite(0));
        x.come(0);
        Due.is("at 7 again", x.bite(0), 0);
    }

    private static void moreThan0() {
        int[] bites = {-99, -1, 0};
        for (int says : bites) {
            FarSide x = Make.ruled("bites 0 - " + -says + ";", 9);
            Due.is("bites", x.of(0, 5), says);
            Edges.refused(x, -1, () -> x.bite(0));
        }
        Due.is("1 is more", Make.ruled("bites 1;", 9).bite(0), 1);
        Due.is("99 is more", Make.ruled("bites 99;", 9).bite(0), 1);
        FarSide x = Make.ruled("bites 2 - depth;", 9);
        Make.bites(x, 0, 2);
        Due.is("as it is ahead of the bite", x.of(0, 2), 2);
        Edges.refused(x, -1, () -> x.bite(0));
    }

    private static void bitten() {
        FarSide x = Make.one(8);
        for (int depth = 1; depth <= 8; depth++) {
            x.bite(0);
            Make.parts(x, 0, Math.min(7, depth), 0, depth, 8 - depth);
        }
    }

    private static void comeBack() {
        FarSide x = Make.one(8);
        Make.bites(x, 0, 8);
        for (int depth = 7; depth >= 0; depth--) {
            Due.is("to where it comes", x.come(0), depth);
            Make.parts(x, 0, depth, 0, depth, 0);
        }
    }

    private static void walked() {
        FarSide x = Make.one(8);
        Due.yes("at depth 0", x.walk(0, 7));
        Make.parts(x, 0, 7, 7, 0, 8);
        x.bite(0);
        Edges.refused(x, 0, () -> Edges.bit(x.walk(0, 0)), () -> Edges.bit(x.walk(0, 7)));
        x.come(0);
        Edges.refused(x, 0, () -> Edges.bit(x.walk(0, 7)));
        Due.yes("at depth 0 again", x.walk(0, 0));
    }

    private static void written() {
        FarSide x = Make.ruled("returns 0;", 8);
        x.hour(4);
        x.bite(0);
        Due.is("bitten: since", x.of(0, 4), 0);
        x.hour(3);
        x.come(0);
        Due.is("come back: since", x.of(0, 4), 0);
        x.hour(2);
        x.walk(0, 5);
        Due.is("walked: since", x.of(0, 4), 0);
        x.hour(1);
        x.buy(0, 1);
        Due.is("bought: since", x.of(0, 4), 1);
        Due.is("three lines", x.book(-1, 0), 3);
        Make.line(x, 0, 4, 0, 0, 1);
        Make.line(x, 1, 7, 0, 1, 0);
        Make.line(x, 2, 9, 0, 2, 5);
        Make.rule(x, "returns 10;");
        x.bite(0);
        x.hour(1);
        Due.is("brought back: since", x.of(0, 4), 0);
        Due.is("five lines", x.book(-1, 0), 5);
        Make.line(x, 4, 10, 0, 1, 5);
    }

    private static void bought() {
        FarSide x = Make.one(0);
        x.buy(0, 1);
        Due.is("one", x.of(0, 3), 1);
        x.buy(0, 98);
        Make.parts(x, 0, 0, 0, 0, 99, 0);
        Due.is("it isn't written down", x.book(-1, 0), 0);
    }

    private static void whoDraws() {
        FarSide x = Make.row();
        Make.people(x, 3, 0, 9);
        Make.rule(x, "returns 0;");
        x.hour(60);
        Due.is("nobody is away: no draws", x.is(1), 383);
        x.bite(2);
        x.hour(1);
        Due.is("one draw", x.is(1), 29751);
        x.bite(0);
        x.hour(1);
        Due.is("two draws", x.is(1), 19103);
        // The draws are 3 and 4: the lower number has the first of them.
        Make.rule(x, "returns 4;");
        Due.is("one comes back", x.hour(1), 1);
        Due.is("the first", x.of(0, 2), 0);
        Due.is("not the second", x.of(2, 2), 1);
    }

    private static void draws() {
        FarSide x = Make.ruled("returns 0;", 9);
        x.bite(0);
        int luck = 383;
        for (int hour = 0; hour < 200; hour++) {
            x.hour(1);
            luck = Make.next(luck);
            Due.is("X", x.is(1), luck);
        }
    }

    // The draws from 383 on are 3, 1, 9, 3, 4, 5, 6, 0, 2, 4.
    private static void belowReturns() {
        FarSide x = Make.ruled("returns 3;", 9);
        x.bite(0);
        Due.is("3 isn't below 3", x.hour(1), 0);
        FarSide y = Make.ruled("returns 4;", 9);
        y.bite(0);
        Due.is("3 is below 4", y.hour(1), 1);
        FarSide z = Make.ruled("returns 0;", 9);
        z.bite(0);
        z.hour(7);
        Due.is("0 isn't below 0", z.hour(1), 0);
        z.undo();
        Make.rule(z, "returns 1;");
        Due.is("0 is below 1", z.hour(1), 1);
        FarSide w = Make.ruled("returns 10;", 9);
        Make.bites(w, 0, 8);
        Due.is("all are below 10", w.hour(8), 8);
        FarSide v = Make.ruled("returns 9;", 9);
        Make.bites(v, 0, 8);
        Due.is("9 isn't below 9", v.hour(8), 7);
    }

    private static void asItIsThen() {
        FarSide x = Make.row();
        Make.people(x, 2, 0, 9);
        x.bite(0);
        x.bite(1);
        Make.rule(x, "returns if who = 0 then 10 else with * 10 end;");
        Due.is("the first has gone from there", x.hour(1), 1);
        Make.bites(x, 0, 1);
        Make.rule(x, "returns if who = 1 then 10 else with * 10 end;");
        Due.is("the second is there yet", x.hour(1), 2);
        FarSide y = Make.ruled("returns hour * 10;", 9);
        y.bite(0);
        Due.is("the hour isn't one more yet", y.hour(1), 0);
        Due.is("now it is", y.hour(1), 1);
        FarSide z = Make.ruled("returns since * 10;", 9);
        z.bite(0);
        Due.is("since isn't one more yet", z.hour(1), 0);
        Due.is("now it is", z.hour(1), 1);
    }

    private static void sinceOfOneAway() {
        FarSide x = Make.ruled("returns 0;", 9);
        x.bite(0);
        x.hour(1);
        Due.is("1", x.of(0, 4), 1);
        Make.pass(x, 97);
        Due.is("98", x.of(0, 4), 98);
        x.hour(1);
        Due.is("99", x.of(0, 4), 99);
        x.hour(1);
        Due.is("99 at most", x.of(0, 4), 99);
    }

    private static void sinceOfOthers() {
        FarSide x = Make.row();
        Make.people(x, 2, 0, 9);
        Make.rule(x, "returns 10;");
        x.bite(0);
        x.hour(1);
        Due.is("of one that comes back 0", x.of(0, 4), 0);
        Due.is("of one at home 1", x.of(1, 4), 1);
        x.hour(1);
        Due.is("1", x.of(0, 4), 1);
        Due.is("2", x.of(1, 4), 2);
        Make.pass(x, 97);
        Due.is("98", x.of(0, 4), 98);
        Due.is("99", x.of(1, 4), 99);
        x.hour(2);
        Due.is("99 at most", x.of(0, 4), 99);
        Due.is("99 at most", x.of(1, 4), 99);
    }

    private static void lastHour() {
        FarSide x = Make.one(9);
        Make.pass(x, 9998);
        x.hour(1);
        Due.is("one more", x.is(0), 9999);
        x.bite(0);
        int luck = x.is(1);
        Edges.refused(x, -1, () -> x.hour(1));
        Due.is("nobody draws", x.is(1), luck);
        x.undo();
        x.undo();
        Due.is("one can pass again", x.hour(1), 0);
    }

    private static void kindsOfSteps() {
        FarSide x = Make.ruled("returns 0;", 9);
        Due.is("none of what was told", x.about(3), 0);
        x.bite(0);
        Due.is("bitten", x.about(3), 1);
        x.come(0);
        Due.is("come back", x.about(3), 2);
        x.walk(0, 1);
        Due.is("walked", x.about(3), 3);
        x.buy(0, 1);
        Due.is("bought", x.about(3), 4);
        x.hour(5);
        Due.is("five hours", x.about(3), 9);
        x.years(3, 40);
        Due.is("years", x.about(3), 10);
        x.person(0, 0);
        x.behind(3, 3);
        x.joy(3, 3);
        x.by(-1);
        x.miss(1, 1);
        x.meeting(2, 2);
        x.entry(1);
        x.said(0, 1);
        x.image();
        x.foretold(9, 0);
        Due.is("none of what is told or asked", x.about(3), 10);
    }

    private static void latest30() {
        FarSide x = Make.one(99);
        for (int i = 1; i <= 29; i++) {
            x.walk(0, i % 8);
        }
        Due.is("29", x.about(3), 29);
        x.hour(1);
        Due.is("30", x.about(3), 30);
        x.hour(1);
        x.walk(0, 0);
        Due.is("still 30", x.about(3), 30);
        for (int left = 29; left >= 0; left--) {
            Due.is("undo", x.undo(), left);
            Due.is("the latest first", x.of(0, 1), Math.min(29, left + 2) % 8);
        }
        Edges.refused(x, -1, () -> x.undo());
        Due.is("two are too old", x.of(0, 1), 2);
    }

    private static void asAhead() {
        FarSide x = Make.ring();
        x.person(1, 20);
        x.person(2, 20);
        x.hour(3);
        x.bite(0);
        x.hour(1);
        x.walk(1, 6);
        String ahead = Edges.seen(x);
        x.buy(1, 79);
        x.bite(1);
        x.hour(2);
        x.undo();
        x.undo();
        x.undo();
        x.undo();
        Due.same("bought, bitten, two hours", Edges.seen(x), ahead);
        x.years(777, 40);
        x.undo();
        Due.same("years", Edges.seen(x), ahead);
    }

    private static void toldSince() {
        FarSide x = Make.one(9);
        x.bite(0);
        Due.is("told behind the step", x.person(5, 33), 1);
        x.hour(1);
        x.walk(1, 2);
        x.buy(1, 4);
        for (int i = 0; i < 4; i++) {
            x.undo();
        }
        Due.is("no more steps", x.about(3), 0);
        Make.parts(x, 0, 0, 0, 0, 9, 0);
        Make.parts(x, 1, 5, 5, 0, 33, 0);
        Due.is("still two", x.about(0), 2);
        Due.is("the next", x.person(0, 0), 2);
        FarSide y = new FarSide();
        y.hour(1);
        Make.people(y, 5, 7, 99);
        Due.is("the step ahead of all people", y.undo(), 0);
        Due.is("five", y.about(0), 5);
        Make.parts(y, 4, 7, 7, 0, 99, 0);
    }

    private static void none() {
        Due.is("NONE", FarSide.NONE, -1);
    }
}
