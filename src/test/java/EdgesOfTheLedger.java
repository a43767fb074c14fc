// Parts IV and V of the terms: the ledger, what hours are worth, odds, whose law it was, years, and the image.
final class EdgesOfTheLedger {
    private EdgesOfTheLedger() {
    }

    static void run() {
        Edges.term("THE LEDGER (told: ENTRIES 0 .. 6, 16 at most)", EdgesOfTheLedger::entries);
        Edges.term("each ENTRY from the (L + 1)-th on is the L ahead of it, each by its factor (0 .. 6), together by 7 what is left over",
            EdgesOfTheLedger::leftOver);
        Edges.term("THE LAW is of the fewest (0: all ENTRIES are 0", EdgesOfTheLedger::fewest);
        Edges.term("1 .. 8, at most as many as there are ENTRIES)", EdgesOfTheLedger::atMostAsMany);
        Edges.term("of like ones the one with the lowest factor of the ENTRY 1 ahead, then 2 ahead, ..", EdgesOfTheLedger::lowestFactor);
        Edges.term("the next ENTRY by it (without ENTRIES 0)", EdgesOfTheLedger::nextEntry);
        Edges.term("NONE for all of it, if there is none", EdgesOfTheLedger::noLaw);
        Edges.term("factors beyond L, also all of L 0: NONE.", EdgesOfTheLedger::beyond);
        Edges.term("FITS: how many laws of just L (0 .. 3) there are (all factors, if no ENTRY has so many ahead).", EdgesOfTheLedger::fits);
        worthAndOdds();
        people();
        yearsAndImage();
    }

    private static void worthAndOdds() {
        Edges.term("in each it stays, or bites (CLOVES as now, one less by each", EdgesOfTheLedger::worthOfCloves);
        Edges.term("DEPTH below 8; bites no matter", EdgesOfTheLedger::worthAtDepth8);
        Edges.term("or comes back (DEPTH above 0)", EdgesOfTheLedger::worthOfComing);
        Edges.term("then has JOY of the PLACE it is in; nobody is brought back: the most JOY together.", EdgesOfTheLedger::thenHasJoy);
        Edges.term("BEST: what to do first for it, the lowest number.", EdgesOfTheLedger::lowestNumber);
        Edges.term("its returns being as now in all of them, nobody biting", EdgesOfTheLedger::returnsAsNow);
        Edges.term("how likely its DEPTH is so much then, in lowest terms.", EdgesOfTheLedger::lowestTerms);
        Edges.term("returns as now in all, in lowest terms (0 by 1, if it is)", EdgesOfTheLedger::longing);
        Edges.term("never (DEPTH above 0, returns 0).", EdgesOfTheLedger::neverBack);
    }

    private static void people() {
        Edges.term("told: SAID, 8 at most: a PERSON, returns 0 .. 10", EdgesOfTheLedger::said);
        Edges.term("(a TEXT without it: by what is so without) all are so (as now).", EdgesOfTheLedger::whoseLaw);
        Edges.term("DEEPEST: the PERSON of greatest DEPTH (above 0); of like ones the lowest; none.", EdgesOfTheLedger::deepest);
        Edges.term("AWAY: PEOPLE (bits) of DEPTH above 0.", EdgesOfTheLedger::away);
        Edges.term("ALONE: PEOPLE (bits) in whose PLACE nobody else is.", EdgesOfTheLedger::alone);
        Edges.term("GLADDEST: the PERSON whose PLACE has most JOY; of like ones the lowest; none.", EdgesOfTheLedger::gladdest);
        Edges.term("BY THE BOOK: how many lines there are of a kind.", EdgesOfTheLedger::lines);
    }

    private static void yearsAndImage() {
        Edges.term("X is SEED (0 .. 9999) * 2 + 383", EdgesOfTheLedger::seeds);
        Edges.term("n times (1 .. 40): x is X, then X is anew (as in a draw by 2)", EdgesOfTheLedger::times);
        Edges.term("0, 1 PERSON x / 6 mod how many has BITTEN", EdgesOfTheLedger::yearsOfBites);
        Edges.term("2 it has COME BACK", EdgesOfTheLedger::yearsOfComing);
        Edges.term("3 it has WALKED to PLACE x mod 8", EdgesOfTheLedger::yearsOfWalks);
        Edges.term("(each if it can be)", EdgesOfTheLedger::ifItCanBe);
        Edges.term("4, 5 an HOUR (if it can pass).", EdgesOfTheLedger::ifItCanPass);
        Edges.term("What there are none of isn't.", EdgesOfTheLedger::noneOf);
        Edges.term("It is one STEP: HOUR.", EdgesOfTheLedger::oneStep);
        Edges.term("AN IMAGE: all as it is, but the tape and the latest FAULT.", EdgesOfTheLedger::allAsItIs);
        Edges.term("BACK: all is so again.", EdgesOfTheLedger::soAgain);
    }

    private static FarSide of(int... entries) {
        FarSide x = new FarSide();
        for (int value : entries) {
            x.entry(value);
        }
        return x;
    }

    private static void law(FarSide x, int next, int... factors) {
        Due.is("law(0)", x.law(0), factors.length);
        for (int ahead = 1; ahead <= 8; ahead++) {
            Due.is("law(" + ahead + ")", x.law(ahead), ahead <= factors.length ? factors[ahead - 1] : -1);
        }
        Due.is("law(9)", x.law(9), next);
    }

    private static void entries() {
        FarSide x = new FarSide();
        for (int i = 1; i <= 16; i++) {
            Due.is("an entry", x.entry(i % 2 * 6), i);
        }
        Edges.refused(x, -2, () -> x.entry(0), () -> x.entry(6));
        x.entry(-1);
        Edges.refused(x, -2, () -> x.entry(7), () -> x.entry(-2));
        law(of(6, 0, 6, 0, 6, 0, 6, 0, 6, 0, 6, 0, 6, 0, 6, 0), 6, 0, 1);
    }

    private static void leftOver() {
        law(of(1, 6, 1), 6, 6);
        law(of(6, 6), 6, 1);
        law(of(1, 0, 0, 1), 0, 0, 0, 1);
        law(of(1, 3, 2, 6, 4, 5), 1, 3);
        law(of(3, 5, 2, 1, 4, 6, 4, 4, 2), 0, 2, 0, 6);
        law(of(1, 3, 2, 6, 4, 4), 5, 0, 0, 0, 0, 4);
    }

    private static void fewest() {
        law(of(), 0);
        law(of(0), 0);
        law(of(0, 0, 0, 0, 0, 0, 0, 0, 0, 0, 0, 0, 0, 0, 0, 0), 0);
        law(of(0, 0, 0, 1), 0, 0, 0, 0, 0);
        law(of(1, 0, 0, 0), 0, 0);
        law(of(2, 2, 2, 2), 2, 1);
    }

    private static void atMostAsMany() {
        law(of(4), 0, 0);
        law(of(0, 4), 0, 0, 0);
        law(of(0, 0, 0, 0, 0, 0, 0, 4), 0, 0, 0, 0, 0, 0, 0, 0, 0);
        law(of(0, 0, 0, 0, 0, 0, 0, 4, 4), 4, 1, 0, 0, 0, 0, 0, 0, 0);
        law(of(0, 0, 0, 0, 0, 0, 0, 1, 1, 1, 1, 1, 1, 1, 1, 4), 0, 1, 0, 0, 0, 0, 0, 0, 3);
        Due.is("nine would be needed", of(0, 0, 0, 0, 0, 0, 0, 0, 4).law(0), -1);
    }

    private static void lowestFactor() {
        // 5 times the first factor and 3 times the second are 2 by 7: seven laws, one of each first factor.
        law(of(3, 5, 2), 1, 0, 3);
        // The entry 2 ahead of 3 is 0, so its factor is free and the first one isn't.
        law(of(0, 1, 3), 2, 3, 0);
        law(of(0, 0, 1, 2), 4, 2, 0, 0);
        law(of(0, 2, 0, 1), 0, 0, 4);
        law(of(1, 1, 0, 3), 5, 4, 3);
    }

    private static void nextEntry() {
        Due.is("without entries", of().law(9), 0);
        FarSide x = of(5);
        x.entry(-1);
        Due.is("without entries any more", x.law(9), 0);
        Due.is("of 1", of(5).law(9), 0);
        Due.is("of 1", of(5, 5).law(9), 5);
        Due.is("of 2", of(1, 1, 2, 3, 5, 1, 6).law(9), 0);
        Due.is("of 16", of(1, 2, 4, 1, 2, 4, 1, 2, 4, 1, 2, 4, 1, 2, 4, 1).law(9), 2);
    }

    private static void noLaw() {
        FarSide x = of(0, 0, 0, 0, 0, 0, 0, 0, 1);
        for (int what = -1; what <= 10; what++) {
            Due.is("law(" + what + ")", x.law(what), -1);
        }
        Due.is("law(9) of 16 without any", of(0, 0, 0, 0, 0, 0, 0, 0, 0, 0, 0, 0, 0, 0, 0, 1).law(9), -1);
        x.entry(-1);
        law(x, 0);
    }

    private static void beyond() {
        FarSide x = of(0, 0);
        for (int ahead = 1; ahead <= 8; ahead++) {
            Due.is("of L 0", x.law(ahead), -1);
        }
        FarSide y = of(1, 2, 4);
        Due.is("L", y.law(1), 2);
        Due.is("beyond 1", y.law(2), -1);
        Due.is("beyond 1", y.law(8), -1);
        FarSide z = of(0, 0, 0, 0, 0, 0, 0, 4);
        Due.is("the last of 8", z.law(8), 0);
    }

    private static void fit(FarSide x, int... want) {
        for (int of = 0; of <= 3; of++) {
            Due.is("fits(" + of + ")", x.fits(of), want[of]);
        }
    }

    private static void fits() {
        fit(of(), 1, 7, 49, 343);
        fit(of(0), 1, 7, 49, 343);
        fit(of(5), 0, 7, 49, 343);
        fit(of(0, 5), 0, 0, 49, 343);
        fit(of(5, 0), 0, 1, 49, 343);
        fit(of(5, 0, 0), 0, 1, 7, 343);
        fit(of(0, 5, 0), 0, 0, 7, 343);
        fit(of(0, 0, 5), 0, 0, 0, 343);
        fit(of(0, 0, 5, 0), 0, 0, 0, 49);
        fit(of(0, 0, 0, 5), 0, 0, 0, 0);
        fit(of(0, 0, 0, 0), 1, 7, 49, 343);
        FarSide x = of(5);
        Edges.refused(x, -1, () -> x.fits(-1), () -> x.fits(4));
    }

    private static FarSide joys(int... joys) {
        FarSide x = Make.row();
        for (int place = 0; place < joys.length; place++) {
            x.joy(place, joys[place]);
        }
        return x;
    }

    private static void worthOfCloves() {
        FarSide x = joys(0, 1, 2, 3, 4, 5, 6, 7);
        Make.people(x, 1, 0, 0);
        Make.people(x, 1, 0, 1);
        Make.people(x, 1, 0, 7);
        Make.people(x, 1, 0, 99);
        Due.is("no cloves", x.worth(0, 20), 0);
        Due.is("no bite", x.best(0, 20), 0);
        Due.is("one clove", x.worth(1, 20), 20);
        Due.is("a bite", x.best(1, 20), 1);
        Due.is("seven", x.worth(2, 20), 1 + 2 + 3 + 4 + 5 + 6 + 14 * 7);
        Due.is("99", x.worth(3, 20), 1 + 2 + 3 + 4 + 5 + 6 + 14 * 7);
        Due.is("as now", x.of(3, 3), 99);
        FarSide y = Make.land(1, 0);
        y.joy(1, 9);
        y.joy(0, -9);
        y.person(0, 1);
        y.bite(0);
        Due.is("the last one is bitten: it stays", y.worth(0, 20), 180);
    }

    private static void worthAtDepth8() {
        FarSide x = Make.ring();
        x.person(0, 99);
        x.joy(0, 1);
        x.joy(1, 9);
        Make.bites(x, 0, 7);
        Due.is("the eighth can be", x.worth(0, 1), 1);
        Due.is("it bites", x.best(0, 1), 1);
        x.bite(0);
        Due.is("a ninth can't", x.worth(0, 1), 1);
        Due.is("it stays", x.best(0, 1), 0);
        Due.is("or it comes back", x.best(0, 20), 2);
        FarSide y = joys(0, 5);
        y.person(0, 9);
        Make.rule(y, "bites -99;");
        Due.is("bites no matter", y.worth(0, 4), 20);
    }

    private static void worthOfComing() {
        FarSide x = joys(-3, 5, -9);
        x.person(1, 9);
        Due.is("at depth 0 it can't: it stays", x.worth(0, 9), 45);
        x.walk(0, 2);
        Due.is("not back beyond its base", x.best(0, 9), 1);
        x.walk(0, 0);
        Make.bites(x, 0, 2);
        x.buy(0, 1);
        Due.is("at depth 2 it can", x.worth(0, 9), 45);
        Due.is("it comes back", x.best(0, 9), 2);
        x.come(0);
        Due.is("at depth 1 it stays", x.best(0, 9), 0);
        x.joy(0, 9);
        Due.is("to depth 0", x.worth(0, 9), 81);
    }

    private static void thenHasJoy() {
        FarSide x = joys(9, -9, 9);
        x.person(0, 9);
        Due.is("no hours", x.worth(0, 0), 0);
        Due.is("the place it has come to", x.worth(0, 1), 9);
        x.bite(0);
        Due.is("not the one it was in", x.worth(0, 1), 9);
        Make.rule(x, "returns 10;");
        x.joy(1, 8);
        x.joy(0, -9);
        x.joy(2, -9);
        Due.is("nobody is brought back", x.worth(0, 20), 160);
        FarSide y = joys(-9, -9, -9, -9, -9, -9, -9, -9);
        y.person(0, 9);
        Due.is("the least", y.worth(0, 20), -180);
        FarSide z = joys(9, 9, 9, 9, 9, 9, 9, 9);
        z.person(0, 9);
        Due.is("the most", z.worth(0, 20), 180);
    }

    private static void lowestNumber() {
        FarSide x = joys(2, 2, 2);
        x.person(0, 9);
        x.bite(0);
        Due.is("all three alike", x.best(0, 20), 0);
        x.joy(1, 1);
        Due.is("biting like coming back", x.best(0, 20), 1);
        x.joy(2, 1);
        Due.is("coming back alone", x.best(0, 20), 2);
        Due.is("for one hour, too", x.best(0, 1), 2);
        // Of two hours -2 and 4 are like 1 and 1, of three -2, 4 and 4 are more.
        FarSide y = joys(1, -2, 4);
        y.person(0, 2);
        Due.is("of one hour", y.best(0, 1), 0);
        Due.is("of two hours", y.best(0, 2), 0);
        Due.is("of three hours", y.best(0, 3), 1);
    }

    private static void odds(FarSide x, int n, int depth, long upper, long lower) {
        Due.is("likely(0, " + n + ", " + depth + ", false)", x.likely(0, n, depth, false), upper);
        Due.is("likely(0, " + n + ", " + depth + ", true)", x.likely(0, n, depth, true), lower);
    }

    private static void returnsAsNow() {
        FarSide x = Make.ruled("bites 99; returns 2 * depth + hour + since;", 20);
        Make.bites(x, 0, 2);
        odds(x, 1, 2, 3, 5);
        odds(x, 2, 2, 9, 25);
        odds(x, 2, 1, 12, 25);
        odds(x, 2, 0, 4, 25);
        odds(x, 6, 3, 0, 1);
        x.by(-1);
        odds(x, 2, 0, 4, 25);
        odds(x, 0, 2, 1, 1);
        odds(x, 0, 1, 0, 1);
    }

    private static void lowestTerms() {
        FarSide x = Make.ruled("returns 1;", 9);
        odds(x, 6, 0, 1, 1);
        odds(x, 6, 8, 0, 1);
        x.bite(0);
        odds(x, 6, 1, 531441, 1000000);
        odds(x, 6, 0, 468559, 1000000);
        Make.bites(x, 0, 7);
        odds(x, 6, 8, 531441, 1000000);
        odds(x, 6, 2, 1, 1000000);
        odds(x, 6, 1, 0, 1);
        odds(x, 6, 7, 177147, 500000);
        Make.rule(x, "returns 10;");
        odds(x, 6, 2, 1, 1);
        odds(x, 6, 3, 0, 1);
        Make.rule(x, "returns 0;");
        odds(x, 6, 8, 1, 1);
        odds(x, 6, 7, 0, 1);
    }

    private static void longs(FarSide x, int upper, int lower) {
        Due.is("longing(0, false)", x.longing(0, false), upper);
        Due.is("longing(0, true)", x.longing(0, true), lower);
    }

    private static void longing() {
        FarSide x = Make.one(9);
        longs(x, 0, 1);
        x.bite(0);
        longs(x, 10, 3);
        x.bite(0);
        longs(x, 5, 1);
        Make.bites(x, 0, 6);
        longs(x, 8, 1);
        Make.rule(x, "returns 1;");
        longs(x, 80, 1);
        Make.rule(x, "returns 9;");
        longs(x, 80, 9);
        Make.rule(x, "returns 4 - hour;");
        longs(x, 20, 1);
    }

    private static void neverBack() {
        FarSide x = Make.ruled("returns 0;", 9);
        longs(x, 0, 1);
        x.bite(0);
        longs(x, -1, -1);
        Make.bites(x, 0, 7);
        longs(x, -1, -1);
        Make.comes(x, 0, 8);
        longs(x, 0, 1);
        Make.rule(x, "returns -5;");
        x.bite(0);
        longs(x, -1, -1);
    }

    private static void said() {
        FarSide x = Make.one(9);
        Edges.refused(x, -2, () -> x.said(1, 0), () -> x.said(-2, 0), () -> x.said(0, -1), () -> x.said(0, 11));
        Due.is("the least", x.said(0, 0), 1);
        Due.is("the most", x.said(0, 10), 2);
        for (int i = 3; i <= 8; i++) {
            Due.is("alike, too", x.said(0, 10), i);
        }
        Edges.refused(x, -2, () -> x.said(0, 10), () -> x.said(0, 0));
    }

    private static void whoseLaw() {
        FarSide x = Make.row();
        Due.is("no texts", x.whose(), 0);
        Make.people(x, 2, 0, 9);
        x.bite(1);
        Due.read(x, "bites 3;");
        Due.read(x, "returns 11;");
        Due.read(x, "returns 2 + who;");
        Due.read(x, "returns since + 2;");
        Due.is("nothing is said: all", x.whose(), 15);
        x.said(0, 2);
        Due.is("all that say 2", x.whose(), 13);
        x.said(1, 3);
        Due.is("all that say both", x.whose(), 5);
        x.said(0, 2);
        Due.is("the same again", x.whose(), 5);
        x.bite(1);
        Due.is("as now: one is deeper", x.whose(), 4);
        x.said(1, 10);
        Due.is("none", x.whose(), 0);
        x.said(-1, 0);
        x.said(1, 10);
        Due.is("11 is 10 at most", x.whose(), 2);
    }

    private static void deepest() {
        FarSide x = Make.row();
        Due.is("nobody", x.deepest(), -1);
        Make.people(x, 5, 0, 9);
        Due.is("all of depth 0", x.deepest(), -1);
        x.bite(4);
        Due.is("the last", x.deepest(), 4);
        x.bite(2);
        Due.is("of like ones the lowest", x.deepest(), 2);
        x.bite(4);
        Due.is("the greatest", x.deepest(), 4);
        Make.bites(x, 0, 8);
        Make.bites(x, 1, 8);
        Due.is("of depth 8", x.deepest(), 0);
    }

    private static void away() {
        FarSide x = new FarSide();
        Due.is("nobody", x.away(), 0);
        Make.people(x, 5, 0, 9);
        Due.is("all of depth 0", x.away(), 0);
        for (int person = 0; person < 5; person++) {
            x.bite(person);
        }
        Due.is("all, though each is where it was", x.away(), 31);
        x.come(0);
        Due.is("but the first", x.away(), 30);
    }

    private static void alone() {
        FarSide x = Make.row();
        Due.is("nobody", x.alone(), 0);
        x.person(0, 9);
        Due.is("one", x.alone(), 1);
        x.person(0, 9);
        Due.is("two in a place", x.alone(), 0);
        x.bite(1);
        Due.is("each in its own", x.alone(), 3);
        x.person(1, 9);
        Due.is("in a place with one of another base", x.alone(), 1);
        Make.people(x, 2, 0, 9);
        Due.is("none", x.alone(), 0);
        x.walk(4, 7);
        Due.is("the last", x.alone(), 16);
    }

    private static void gladdest() {
        FarSide x = joys(-9, -9, 9);
        Due.is("nobody", x.gladdest(), -1);
        x.person(0, 9);
        Due.is("of the least joy", x.gladdest(), 0);
        x.person(1, 9);
        Due.is("of like ones the lowest", x.gladdest(), 0);
        x.bite(1);
        Due.is("the place it is in", x.gladdest(), 1);
        Make.bites(x, 0, 2);
        Due.is("of like ones the lowest", x.gladdest(), 0);
        x.joy(2, -9);
        Due.is("of the least, too", x.gladdest(), 0);
        x.joy(2, 0);
        x.bite(1);
        x.joy(3, 1);
        Due.is("the most", x.gladdest(), 1);
    }

    private static void lines(FarSide x, int... want) {
        for (int what = 0; what <= 2; what++) {
            Due.is("ledger(" + what + ")", x.ledger(what), want[what]);
        }
    }

    private static void lines() {
        FarSide x = Make.one(99);
        lines(x, 0, 0, 0);
        x.walk(0, 1);
        lines(x, 0, 0, 1);
        for (int i = 0; i < 14; i++) {
            x.bite(0);
            x.come(0);
        }
        x.bite(0);
        lines(x, 15, 14, 1);
        x.bite(0);
        lines(x, 16, 14, 0);
        x.bite(0);
        lines(x, 16, 14, 0);
        x.bite(0);
        lines(x, 17, 13, 0);
        x.undo();
        lines(x, 16, 14, 0);
        Make.rule(x, "returns 10;");
        x.hour(1);
        lines(x, 16, 14, 0);
    }

    private static void seeds() {
        FarSide x = new FarSide();
        Due.is("the least", x.years(0, 1), 1);
        Due.is("X from 383 on", x.is(1), Make.next(383));
        Due.is("the most", x.years(9999, 1), 2);
        Due.is("X from 20381 on", x.is(1), Make.next(20381));
        Edges.refused(x, -1, () -> x.years(-1, 1), () -> x.years(10000, 1));
    }

    private static void times() {
        FarSide x = new FarSide();
        Due.is("once", x.years(0, 1), 1);
        int luck = 383;
        int hours = 1;
        for (int i = 0; i < 40; i++) {
            hours += luck % 6 >= 4 ? 1 : 0;
            luck = Make.next(luck);
        }
        Due.is("40 times", x.years(0, 40), hours);
        Due.is("X behind 40", x.is(1), luck);
        Edges.refused(x, -1, () -> x.years(0, 0), () -> x.years(0, 41), () -> x.years(0, -1));
    }

    private static FarSide five() {
        FarSide x = Make.ring();
        Make.people(x, 5, 0, 9);
        return x;
    }

    // Seed 100: x 583 (1; 97: person 2), 3486 (0; 581: person 1). Seed 106: x 595 (1; 99: person 4).
    private static void yearsOfBites() {
        FarSide x = five();
        x.years(100, 2);
        Due.is("the two who have bitten", x.away(), 6);
        lines(x, 2, 0, 0);
        x.years(106, 1);
        Due.is("the last, too", x.away(), 22);
        FarSide y = Make.one(9);
        y.years(106, 1);
        Due.is("of one the first", y.away(), 1);
        // Seed 109: x 601 (1; 100: person 0 of five, 0 of two, 1 of three).
        FarSide z = Make.ring();
        Make.people(z, 3, 0, 9);
        z.years(109, 1);
        Due.is("of three", z.away(), 2);
    }

    // Seed 7: x 397 (1; 66: person 1), 7832 (2; 1305: person 0).
    private static void yearsOfComing() {
        FarSide x = five();
        Make.bites(x, 0, 8);
        x.years(7, 2);
        Due.is("it has come back once", x.of(0, 2), 7);
        Due.is("the other one has bitten", x.of(1, 2), 1);
        Make.line(x, 9, 0, 0, 1, 7);
        FarSide y = five();
        y.years(7, 2);
        Due.is("at depth 0 it can't be", y.of(0, 2), 0);
        lines(y, 1, 0, 0);
    }

    // Seed 8: x 399 (3; 66: person 1; place 7). Seed 17: x 417 (3; 69: person 4; place 1).
    private static void yearsOfWalks() {
        FarSide x = five();
        x.years(8, 1);
        Make.parts(x, 1, 7, 7, 0);
        x.years(17, 1);
        Make.parts(x, 4, 1, 1, 0);
        lines(x, 0, 0, 2);
        Make.line(x, 0, 0, 1, 2, 7);
    }

    private static void ifItCanBe() {
        FarSide x = five();
        Make.rule(x, "bites 0;");
        x.years(100, 2);
        Due.is("bites 0: nobody has bitten", x.away(), 0);
        x.by(-1);
        Make.bites(x, 2, 8);
        x.years(100, 1);
        Due.is("depth 8: it hasn't bitten", x.of(2, 2), 8);
        x.bite(1);
        x.years(8, 1);
        Due.is("away: it hasn't walked", x.of(1, 1), 0);
        x.walk(4, 1);
        int lines = x.book(-1, 0);
        x.years(17, 1);
        Due.is("there it is: it hasn't walked", x.book(-1, 0), lines);
        FarSide y = Make.ring();
        Make.people(y, 5, 0, 0);
        y.years(100, 2);
        Due.is("no cloves: nobody has bitten", y.away(), 0);
        Due.is("X behind two all the same", y.is(1), Make.next(Make.next(583)));
    }

    // Seed 9: x 401 (5), 10396 (4).
    private static void ifItCanPass() {
        FarSide x = new FarSide();
        Due.is("two hours", x.years(9, 2), 2);
        Make.pass(x, 9996);
        Due.is("one hour of two", x.years(9, 2), 9999);
        Due.is("none", x.years(9, 2), 9999);
        Due.is("X behind two", x.is(1), Make.next(Make.next(401)));
        FarSide y = Make.ruled("returns 0;", 9);
        y.bite(0);
        y.years(9, 1);
        Due.is("in an hour one who is away draws, too", y.is(1), Make.next(Make.next(401)));
        Make.pass(y, 9998);
        Due.is("at 9999", y.years(9, 1), 9999);
        Due.is("nobody draws in an hour that can't pass", y.is(1), Make.next(401));
    }

    private static void noneOf() {
        FarSide x = new FarSide();
        int luck = 20381;
        int hours = 0;
        for (int i = 0; i < 40; i++) {
            hours += luck % 6 >= 4 ? 1 : 0;
            luck = Make.next(luck);
        }
        Due.is("without people hours alone", x.years(9999, 40), hours);
        Due.is("no lines", x.book(-1, 0), 0);
        Due.is("X", x.is(1), luck);
    }

    private static void oneStep() {
        FarSide x = five();
        x.hour(2);
        String before = Edges.seen(x);
        int hour = x.years(31, 40);
        Due.is("the hour", x.is(0), hour);
        Due.is("one step", x.about(3), 3);
        Due.is("taken back", x.undo(), 2);
        Due.same("what is seen", Edges.seen(x), before);
        FarSide y = new FarSide();
        Due.is("nothing comes of it", y.years(1, 1), 0);
        Due.is("a step all the same", y.undo(), 0);
        Due.is("X is as ahead of it", y.is(1), 383);
    }

    private static FarSide full() {
        FarSide x = five();
        x.joy(3, 7);
        Make.rule(x, "bites 2; returns 3;");
        Due.read(x, "returns who + 1;");
        x.bite(3);
        x.hour(5);
        x.miss(3, 6);
        x.meeting(9, 9);
        x.entry(3);
        x.entry(5);
        x.said(2, 3);
        return x;
    }

    private static void allAsItIs() {
        FarSide x = full();
        Due.tape(x, "bites");
        x.text();
        Due.tape(x, "hour");
        x.image();
        Due.read(x, "bites 10000;");
        Due.tape(x, "bites 1; bites");
        x.back();
        Due.is("the tape isn't in it", x.about(8), 14);
        Due.is("nor the latest fault", x.fault(0), 2);
        Due.is("nor its place", x.fault(1), 6);
        Due.is("what the tape has is read", x.text(), -1);
        Due.is("its fault", x.fault(0), 4);
    }

    private static void soAgain() {
        FarSide x = full();
        x.image();
        String before = Edges.seen(x);
        x.behind(0, 5);
        x.joy(3, -7);
        x.bite(1);
        x.walk(2, 6);
        x.hour(40);
        x.miss(-1, 0);
        x.miss(20, 20);
        x.meeting(1, 1);
        x.entry(-1);
        x.entry(2);
        x.entry(2);
        x.said(-1, 0);
        x.said(1, 9);
        x.by(-1);
        for (int i = 0; i < 20; i++) {
            x.undo();
        }
        Due.is("the hour", x.back(), 5);
        Due.same("what is seen", Edges.seen(x), before);
        Due.is("the law of the ledger", x.law(1), 4);
        Due.is("the next entry", x.law(9), 6);
        Due.is("the plan", x.plan(6, 0), 1);
        Due.is("the most that is needed", x.need(1), 9);
        Due.is("whose law", x.whose(), 3);
        Due.is("steps can be taken back as then", x.undo(), 5);
        Due.is("an hour less", x.is(0), 4);
    }
}
