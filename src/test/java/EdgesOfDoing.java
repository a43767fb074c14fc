// Promises 10 to 17: what is done by hand, by texts and by years, and taking it back.
final class EdgesOfDoing {
    private EdgesOfDoing() {
    }

    static void run() {
        Edges.promise(10, "BITTEN: the PLACE it comes to.", EdgesOfDoing::bite);
        Edges.promise(10, "NONE, if it can't be, and for others.", EdgesOfDoing::noBite);
        Edges.promise(11, "COME BACK: the PLACE it comes to.", EdgesOfDoing::come);
        Edges.promise(11, "NONE, if its DEPTH is 0, and for others.", EdgesOfDoing::noComing);
        Edges.promise(12, "WALKED: true.", EdgesOfDoing::walk);
        Edges.promise(12, "False, if its DEPTH is above 0, or it is there, and for others.", EdgesOfDoing::noWalk);
        Edges.promise(13, "BOUGHT: true.", EdgesOfDoing::buy);
        Edges.promise(13, "False for others (1 .. 99), and beyond 99.", EdgesOfDoing::notBought);
        Edges.promise(14, "HOURS pass (1 .. 60): how many times anybody comes back in them.", EdgesOfDoing::hour);
        Edges.promise(14, "NONE for others, or beyond 9999 (nothing is done then).", EdgesOfDoing::noHour);
        Edges.promise(15, "PLAYED by a TEXT: NONE: all is done; else the number of the CLAUSE that can't be.", EdgesOfDoing::played);
        Edges.promise(15, "-2 for others.", EdgesOfDoing::notPlayed);
        Edges.promise(16, "YEARS: HOUR.", EdgesOfDoing::years);
        Edges.promise(16, "NONE for others.", EdgesOfDoing::noYears);
        Edges.promise(17, "The latest STEP is taken back: how many can be yet.", EdgesOfDoing::undo);
        Edges.promise(17, "NONE: there is none.", EdgesOfDoing::noUndo);
    }

    private static void bite() {
        FarSide x = Make.ring();
        Make.people(x, 5, 7, 9);
        Due.is("the first person", x.bite(0), 0);
        Due.is("the last person", x.bite(4), 0);
        Due.is("deeper", x.bite(4), 1);
        FarSide y = new FarSide();
        y.person(7, 8);
        for (int i = 0; i < 8; i++) {
            Due.is("to where it is", y.bite(0), 7);
        }
        Due.is("eight steps", y.about(3), 8);
    }

    private static void noBite() {
        FarSide x = Make.one(0);
        Edges.refused(x, -1, () -> x.bite(0), () -> x.bite(1), () -> x.bite(-1), () -> x.bite(5), () -> x.bite(Integer.MAX_VALUE),
            () -> x.bite(Integer.MIN_VALUE));
        x.buy(0, 99);
        Make.bites(x, 0, 8);
        Edges.refused(x, -1, () -> x.bite(0));
        x.come(0);
        Make.rule(x, "bites 0;");
        Edges.refused(x, -1, () -> x.bite(0));
        FarSide y = new FarSide();
        Edges.refused(y, -1, () -> y.bite(0));
    }

    private static void come() {
        FarSide x = Make.ring();
        Make.people(x, 5, 7, 9);
        Make.bites(x, 4, 8);
        int[] places = {6, 5, 4, 3, 2, 1, 0, 7};
        for (int place : places) {
            Due.is("the place", x.come(4), place);
        }
        Due.is("a step each", x.about(3), 16);
        Due.is("a line each", x.ledger(1), 8);
    }

    private static void noComing() {
        FarSide x = Make.one(9);
        Edges.refused(x, -1, () -> x.come(0), () -> x.come(1), () -> x.come(-1), () -> x.come(5), () -> x.come(Integer.MAX_VALUE),
            () -> x.come(Integer.MIN_VALUE));
        x.bite(0);
        Edges.refused(x, -1, () -> x.come(1));
        x.come(0);
        Edges.refused(x, -1, () -> x.come(0));
        FarSide y = new FarSide();
        Edges.refused(y, -1, () -> y.come(0));
    }

    private static void walk() {
        FarSide x = Make.row();
        Make.people(x, 5, 3, 0);
        Due.yes("the first person to the first place", x.walk(0, 0));
        Due.yes("the last person to the last place", x.walk(4, 7));
        Due.is("0 is there", x.of(0, 0), 0);
        Due.is("4 is there", x.of(4, 0), 7);
        Due.is("two steps", x.about(3), 2);
        Due.is("two lines", x.ledger(2), 2);
    }

    private static void noWalk() {
        FarSide x = Make.one(9);
        Edges.refused(x, 0, () -> Edges.bit(x.walk(0, 0)), () -> Edges.bit(x.walk(0, -1)), () -> Edges.bit(x.walk(0, 8)),
            () -> Edges.bit(x.walk(1, 3)), () -> Edges.bit(x.walk(-1, 3)), () -> Edges.bit(x.walk(Integer.MAX_VALUE, 3)),
            () -> Edges.bit(x.walk(0, Integer.MIN_VALUE)));
        x.bite(0);
        Edges.refused(x, 0, () -> Edges.bit(x.walk(0, 3)), () -> Edges.bit(x.walk(0, 1)), () -> Edges.bit(x.walk(0, 0)));
        FarSide y = new FarSide();
        Edges.refused(y, 0, () -> Edges.bit(y.walk(0, 3)));
    }

    private static void buy() {
        FarSide x = Make.row();
        Make.people(x, 5, 3, 0);
        Due.yes("the most", x.buy(4, 99));
        Due.yes("the least", x.buy(0, 1));
        Due.yes("to just 99", x.buy(0, 98));
        Due.is("cloves of 4", x.of(4, 3), 99);
        Due.is("cloves of 0", x.of(0, 3), 99);
        Due.is("three steps", x.about(3), 3);
        Due.is("no lines", x.book(-1, 0), 0);
    }

    private static void notBought() {
        FarSide x = Make.row();
        Make.people(x, 2, 3, 50);
        Edges.refused(x, 0, () -> Edges.bit(x.buy(0, 0)), () -> Edges.bit(x.buy(0, -1)), () -> Edges.bit(x.buy(0, 100)),
            () -> Edges.bit(x.buy(0, 50)), () -> Edges.bit(x.buy(0, 99)), () -> Edges.bit(x.buy(2, 1)), () -> Edges.bit(x.buy(-1, 1)),
            () -> Edges.bit(x.buy(0, Integer.MAX_VALUE)), () -> Edges.bit(x.buy(0, Integer.MIN_VALUE)));
        Due.yes("to just 99", x.buy(0, 49));
        Edges.refused(x, 0, () -> Edges.bit(x.buy(0, 1)));
        FarSide y = Make.one(0);
        Edges.refused(y, 0, () -> Edges.bit(y.buy(0, 100)));
        FarSide z = new FarSide();
        Edges.refused(z, 0, () -> Edges.bit(z.buy(0, 1)));
    }

    private static void hour() {
        FarSide x = Make.row();
        Make.people(x, 5, 0, 9);
        Make.rule(x, "returns 10;");
        Due.is("nobody is away", x.hour(60), 0);
        Due.is("sixty", x.is(0), 60);
        for (int person = 0; person < 5; person++) {
            Make.bites(x, person, person + 1);
        }
        Due.is("each once", x.hour(1), 5);
        Due.is("one", x.is(0), 61);
        Due.is("all of them in all", x.hour(60), 10);
        Due.is("a line of each", x.ledger(1), 15);
    }

    private static void noHour() {
        FarSide x = Make.one(9);
        x.bite(0);
        Edges.refused(x, -1, () -> x.hour(0), () -> x.hour(-1), () -> x.hour(61), () -> x.hour(Integer.MAX_VALUE),
            () -> x.hour(Integer.MIN_VALUE));
        FarSide y = Make.one(9);
        Make.pass(y, 9959);
        y.bite(0);
        Edges.refused(y, -1, () -> y.hour(41), () -> y.hour(60));
        Due.is("to just 9999", Math.max(0, y.hour(40)), y.ledger(1));
        Due.is("the last hour", y.is(0), 9999);
        Edges.refused(y, -1, () -> y.hour(1));
    }

    private static void played() {
        FarSide x = new FarSide();
        Due.read(x, "");
        Due.read(x, "person 0 cloves 1; bite 0; come 0; walk 0 to 1; hour 60; place 7 behind 0; bites 0; returns 0;");
        Due.read(x, "bites 1; come 0;");
        Due.read(x, "bite 4;");
        Due.is("nothing to be done", x.played(0), -1);
        Due.is("all is done", x.played(1), -1);
        Due.is("the second can't be", x.played(2), 1);
        Due.is("the first can't be", x.played(3), 0);
    }

    private static void notPlayed() {
        FarSide x = Make.one(9);
        Edges.refused(x, -2, () -> x.played(0), () -> x.played(-1));
        Due.read(x, "bite 0;");
        Edges.refused(x, -2, () -> x.played(1), () -> x.played(-1), () -> x.played(-2), () -> x.played(4),
            () -> x.played(Integer.MAX_VALUE), () -> x.played(Integer.MIN_VALUE));
    }

    private static void years() {
        FarSide x = new FarSide();
        Due.is("an hour", x.years(0, 1), 1);
        Due.is("no hour", x.years(1, 1), 1);
        Due.is("the last seed", x.years(9999, 1), 2);
        Make.pass(x, 9997);
        Due.is("no hour can pass", x.years(0, 40), 9999);
        Due.is("HOUR", x.is(0), 9999);
    }

    private static void noYears() {
        FarSide x = Make.one(9);
        Edges.refused(x, -1, () -> x.years(-1, 1), () -> x.years(10000, 1), () -> x.years(0, 0), () -> x.years(0, 41),
            () -> x.years(0, -1), () -> x.years(Integer.MAX_VALUE, 1), () -> x.years(Integer.MIN_VALUE, 1),
            () -> x.years(0, Integer.MAX_VALUE), () -> x.years(0, Integer.MIN_VALUE));
    }

    private static void undo() {
        FarSide x = Make.one(99);
        x.bite(0);
        Due.is("the only one", x.undo(), 0);
        Due.is("not bitten", x.of(0, 3), 99);
        x.hour(31);
        Due.is("of thirty", x.undo(), 29);
        Due.is("an hour less", x.is(0), 30);
        x.bite(0);
        Due.is("thirty again", x.about(3), 30);
        for (int left = 29; left >= 0; left--) {
            Due.is("yet", x.undo(), left);
        }
        Due.is("one hour is too old", x.is(0), 1);
    }

    private static void noUndo() {
        FarSide x = Make.one(9);
        Edges.refused(x, -1, () -> x.undo(), () -> x.undo());
        x.hour(40);
        for (int i = 0; i < 30; i++) {
            x.undo();
        }
        Edges.refused(x, -1, () -> x.undo());
        Due.is("ten hours are too old", x.is(0), 10);
    }
}
