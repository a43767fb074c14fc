// Part III of the terms: what is foretold, places behind places, the game, and plans.
final class EdgesOfWhatComes {
    private EdgesOfWhatComes() {
    }

    static void run() {
        Edges.term("All that follows changes nothing but what is told.", EdgesOfWhatComes::changesNothing);
        Edges.term("FORETOLD behind n HOURS (1 .. 60; those that can pass)", EdgesOfWhatComes::foretoldHours);
        Edges.term("nothing else being done.", EdgesOfWhatComes::nothingElse);
        Edges.term("PLACES that are come to again from themselves, going BEHIND again and again: how many RINGS there are",
            EdgesOfWhatComes::howManyRings);
        Edges.term("from a PLACE: behind how many it is in one first, how many PLACES that has.", EdgesOfWhatComes::wayToRing);
        Edges.term("LEFT: PLACES that are n times BEHIND some PLACE (0 times: all).", EdgesOfWhatComes::left);
        Edges.term("INTO a PLACE: PLACES it is BEHIND.", EdgesOfWhatComes::into);
        Edges.term("the fewest times BEHIND of both together by which they are alike", EdgesOfWhatComes::fewestOfBoth);
        Edges.term("of like ones those with fewest of the first", EdgesOfWhatComes::fewestOfFirst);
        Edges.term("of the first; never.", EdgesOfWhatComes::neverMeeting);
        Edges.term("by turns each goes on to the one BEHIND, or the one BEHIND that; who comes to PLACE 0 wins", EdgesOfWhatComes::comesTo0);
        Edges.term("from PLACE 0, too, it goes on so", EdgesOfWhatComes::from0);
        Edges.term("is PLACE 0 BEHIND itself, the first wins there", EdgesOfWhatComes::behindItself);
        Edges.term("nobody, as each can go on for ever rather than lose", EdgesOfWhatComes::nobodyWins);
        Edges.term("A MOVE by which it wins: the lowest; none.", EdgesOfWhatComes::lowestMove);
        plans();
    }

    private static void plans() {
        Edges.term("PLANS: a day of hours 0 .. 23", EdgesOfWhatComes::day);
        Edges.term("a bite at an hour, one is away from it on for so many hours", EdgesOfWhatComes::soManyHours);
        Edges.term("as told; a bite can be in any hour, and lasts no longer than the day", EdgesOfWhatComes::noLongerThanDay);
        Edges.term("not bitten again ahead of coming back (in the hour of coming back it can be).", EdgesOfWhatComes::notAgainAhead);
        Edges.term("DOINGS (6 at most; told: from an hour to one, both too): away in all of them", EdgesOfWhatComes::doings);
        Edges.term("MEETINGS (likewise): away in none", EdgesOfWhatComes::meetings);
        Edges.term("the fewest bites by which it is so", EdgesOfWhatComes::fewestBites);
        Edges.term("of like ones the first hour as early as can be, then the next", EdgesOfWhatComes::earliest);
        Edges.term("(without DOINGS 0); no way.", EdgesOfWhatComes::withoutDoings);
        Edges.term("NEEDED: of 1 .. 24 hours the fewest, the most by which there is a PLAN (without DOINGS 1, 24).", EdgesOfWhatComes::needed);
    }

    private static void changesNothing() {
        FarSide x = Make.ring();
        Make.people(x, 3, 2, 20);
        Make.bites(x, 1, 3);
        x.hour(2);
        Make.rule(x, "bites 2; returns who + since;");
        x.miss(3, 5);
        x.meeting(8, 9);
        x.entry(4);
        x.entry(2);
        x.said(1, 3);
        String before = Edges.seen(x);
        x.foretold(60, 1);
        x.after(3, 1000000);
        x.ring(3, true);
        x.rings();
        x.left(8);
        x.into(3);
        x.meet(0, 4, 0);
        x.game(5);
        x.move(5);
        x.plan(3, 0);
        x.need(0);
        x.need(1);
        x.law(0);
        x.law(9);
        x.fits(3);
        x.worth(1, 20);
        x.best(1, 20);
        x.likely(1, 6, 0, true);
        x.longing(1, false);
        x.whose();
        x.deepest();
        x.away();
        x.alone();
        x.gladdest();
        x.ledger(0);
        Due.same("what is seen", Edges.seen(x), before);
        Due.is("the hours are as foretold", x.foretold(7, 1), depthBehind(x, 7, 1));
    }

    private static int depthBehind(FarSide x, int hours, int person) {
        x.image();
        x.hour(hours);
        int depth = x.of(person, 2);
        x.back();
        return depth;
    }

    private static void foretoldHours() {
        FarSide x = Make.ruled("returns 10;", 9);
        Make.bites(x, 0, 8);
        Due.is("1 hour", x.foretold(1, 0), 7);
        Due.is("60 hours", x.foretold(60, 0), 0);
        Edges.refused(x, -1, () -> x.foretold(0, 0), () -> x.foretold(61, 0), () -> x.foretold(-1, 0));
        FarSide y = Make.one(9);
        Make.pass(y, 9996);
        Make.bites(y, 0, 8);
        Make.rule(y, "returns 10;");
        Due.is("2 of 3 that can pass", y.foretold(2, 0), 6);
        Due.is("3 of 3", y.foretold(3, 0), 5);
        Due.is("those 3 that can pass", y.foretold(4, 0), 5);
        Due.is("those 3 that can pass", y.foretold(60, 0), 5);
        y.hour(3);
        Due.is("none can pass", y.foretold(1, 0), 5);
    }

    private static void nothingElse() {
        FarSide x = Make.ring();
        Make.people(x, 4, 0, 20);
        for (int person = 0; person < 4; person++) {
            Make.bites(x, person, 2 * person + 1);
        }
        for (int hours = 1; hours <= 9; hours++) {
            Due.is("of so many hours", x.foretold(hours, 3), depthBehind(x, hours, 3));
        }
        Make.rule(x, "returns 2 * with + deep 0 + since + hour / 3;");
        for (int hours = 1; hours <= 9; hours++) {
            Due.is("of so many hours by a law", x.foretold(hours, 2), depthBehind(x, hours, 2));
        }
    }

    private static void howManyRings() {
        Due.is("eight of one", new FarSide().rings(), 8);
        Due.is("four of two", Make.land(1, 0, 3, 2, 5, 4, 7, 6).rings(), 4);
        Due.is("one of all", Make.ring().rings(), 1);
        Due.is("one of one", Make.row().rings(), 1);
        Due.is("one of one, all else behind it", Make.land(4, 4, 4, 4, 4, 4, 4, 4).rings(), 1);
        Due.is("one of five, one of three", Make.land(1, 2, 3, 4, 0, 6, 7, 5).rings(), 2);
        Due.is("one of seven, one of one", Make.land(1, 2, 3, 4, 5, 6, 0, 7).rings(), 2);
    }

    private static void wayToRing() {
        FarSide x = Make.row();
        for (int place = 0; place <= 7; place++) {
            Due.is("the way", x.ring(place, true), 7 - place);
            Due.is("its places", x.ring(place, false), 1);
        }
        FarSide y = Make.ring();
        for (int place = 0; place <= 7; place++) {
            Due.is("in it at once", y.ring(place, true), 0);
            Due.is("all eight", y.ring(place, false), 8);
        }
        for (int last = 0; last <= 7; last++) {
            FarSide z = Make.row();
            z.behind(7, last);
            Due.is("the way ahead of the ring", z.ring(0, true), last);
            Due.is("the ring's places", z.ring(0, false), 8 - last);
        }
    }

    private static void left() {
        FarSide x = Make.row();
        for (int n = 0; n <= 7; n++) {
            Due.is("left(" + n + ")", x.left(n), 255 >> n << n);
        }
        Due.is("left(8)", x.left(8), 128);
        Due.is("0 times: all", Make.land(3, 3, 3, 3, 3, 3, 3, 3).left(0), 255);
        Due.is("once: one", Make.land(3, 3, 3, 3, 3, 3, 3, 3).left(1), 8);
        Due.is("of a ring all", Make.ring().left(8), 255);
    }

    private static void into() {
        FarSide x = Make.land(3, 3, 3, 3, 3, 3, 3, 3);
        Due.is("all", x.into(3), 255);
        Due.is("none", x.into(0), 0);
        Due.is("none", x.into(7), 0);
        Due.is("itself", new FarSide().into(7), 128);
        Due.is("one and itself", Make.row().into(7), 192);
    }

    private static void meets(FarSide x, int a, int b, int both, int first) {
        Due.is("both", x.meet(a, b, 0), both);
        Due.is("the first", x.meet(a, b, 1), first);
        Due.is("the second", x.meet(a, b, 2), both < 0 ? -1 : both - first);
    }

    private static void fewestOfBoth() {
        meets(Make.row(), 5, 5, 0, 0);
        meets(Make.row(), 0, 7, 7, 7);
        meets(Make.row(), 7, 0, 7, 0);
        meets(Make.land(1, 2, 3, 7, 5, 6, 7, 7), 0, 4, 7, 4);
        meets(Make.ring(), 6, 1, 3, 3);
        meets(Make.ring(), 1, 6, 3, 0);
        // Into the ring of 4 to 7 on other sides: 2 of the first, 2 of the second, 2 more round it.
        meets(Make.land(1, 4, 3, 6, 5, 6, 7, 4), 0, 2, 6, 2);
    }

    private static void fewestOfFirst() {
        meets(Make.ring(), 0, 4, 4, 0);
        meets(Make.ring(), 4, 0, 4, 0);
        meets(Make.land(1, 0, 2, 3, 4, 5, 6, 7), 0, 1, 1, 0);
        meets(Make.land(1, 0, 2, 3, 4, 5, 6, 7), 1, 0, 1, 0);
        // Either goes on round a ring of two behind coming in on both its sides.
        meets(Make.land(1, 0, 0, 1, 4, 5, 6, 7), 2, 3, 3, 1);
        meets(Make.land(1, 0, 0, 1, 4, 5, 6, 7), 3, 2, 3, 1);
    }

    private static void neverMeeting() {
        meets(new FarSide(), 0, 7, -1, -1);
        meets(Make.land(1, 2, 3, 0, 5, 6, 7, 4), 3, 7, -1, -1);
        meets(Make.land(1, 2, 3, 3, 5, 6, 7, 7), 0, 4, -1, -1);
    }

    private static void plays(FarSide x, int place, int game, int move) {
        Due.is("game(" + place + ")", x.game(place), game);
        Due.is("move(" + place + ")", x.move(place), move);
    }

    private static void comesTo0() {
        FarSide x = Make.land(0, 0, 1, 2, 3, 4, 5, 6);
        int[] games = {1, 1, 1, 0, 1, 1, 0, 1};
        int[] moves = {1, 1, 2, -1, 1, 2, -1, 1};
        for (int place = 0; place <= 7; place++) {
            plays(x, place, games[place], moves[place]);
        }
        // Going over place 0 to the one behind it is no coming to it: 0 wins by one time, not by two.
        plays(Make.land(2, 0, 2, 3, 4, 5, 6, 7), 1, 1, 1);
    }

    private static void from0() {
        plays(Make.land(1, 1, 2, 3, 4, 5, 6, 7), 0, 2, -1);
        plays(Make.land(1, 0, 2, 3, 4, 5, 6, 7), 0, 1, 2);
        plays(Make.land(1, 2, 0, 3, 4, 5, 6, 7), 0, 0, -1);
        plays(Make.land(1, 2, 3, 0, 4, 5, 6, 7), 0, 1, 1);
        plays(Make.ring(), 0, 1, 2);
    }

    private static void behindItself() {
        plays(new FarSide(), 0, 1, 1);
        plays(Make.land(0, 0, 0, 0, 0, 0, 0, 0), 0, 1, 1);
    }

    private static void nobodyWins() {
        FarSide x = new FarSide();
        for (int place = 1; place <= 7; place++) {
            plays(x, place, 2, -1);
        }
        FarSide y = Make.land(0, 2, 3, 4, 5, 6, 7, 1);
        plays(y, 1, 2, -1);
        plays(y, 7, 2, -1);
        FarSide z = Make.row();
        plays(z, 0, 2, -1);
        plays(z, 6, 2, -1);
    }

    private static void lowestMove() {
        plays(Make.land(0, 0, 2, 3, 4, 5, 6, 7), 1, 1, 1);
        plays(Make.land(0, 0, 1, 3, 4, 5, 6, 7), 2, 1, 2);
        plays(Make.land(0, 0, 1, 2, 4, 5, 6, 7), 3, 0, -1);
        plays(Make.land(0, 0, 1, 3, 4, 5, 6, 7), 3, 2, -1);
    }

    private static void plan(FarSide x, int hours, int... bites) {
        Due.is("plan(" + hours + ", -1)", x.plan(hours, -1), bites.length);
        for (int i = 0; i < bites.length; i++) {
            Due.is("plan(" + hours + ", " + i + ")", x.plan(hours, i), bites[i]);
        }
        Due.is("plan(" + hours + ", " + bites.length + ")", x.plan(hours, bites.length), -2);
    }

    private static void noWay(FarSide x, int hours) {
        Due.is("plan(" + hours + ", -1)", x.plan(hours, -1), -2);
        Due.is("plan(" + hours + ", 0)", x.plan(hours, 0), -2);
    }

    private static FarSide day(int missFrom, int missTo, int... meetings) {
        FarSide x = new FarSide();
        x.miss(missFrom, missTo);
        for (int i = 0; i < meetings.length; i += 2) {
            x.meeting(meetings[i], meetings[i + 1]);
        }
        return x;
    }

    private static void day() {
        plan(day(0, 0), 1, 0);
        plan(day(23, 23), 1, 23);
        plan(day(0, 0), 24, 0);
        plan(day(0, 23), 24, 0);
        plan(day(0, 23), 23, 0, 23);
        plan(day(0, 23), 12, 0, 12);
        FarSide x = day(0, 23);
        Due.is("24 of one", x.plan(1, -1), 24);
        Due.is("the last of them", x.plan(1, 23), 23);
    }

    private static void soManyHours() {
        FarSide x = day(5, 8);
        plan(x, 3, 3, 6);
        plan(x, 4, 5);
        plan(x, 5, 4);
        plan(x, 9, 0);
        plan(x, 8, 1);
    }

    private static void noLongerThanDay() {
        FarSide x = day(23, 23, 0, 22);
        plan(x, 1, 23);
        plan(x, 2, 23);
        plan(x, 24, 23);
        plan(day(20, 23, 0, 19), 24, 20);
        plan(day(20, 23, 0, 18), 24, 19);
        plan(day(23, 23), 2, 22);
        plan(day(0, 0, 1, 23), 1, 0);
        noWay(day(0, 0, 1, 23), 2);
    }

    private static void notAgainAhead() {
        plan(day(5, 8), 2, 5, 7);
        plan(day(5, 9), 2, 4, 6, 8);
        // Two that lap over would do.
        noWay(day(5, 8, 0, 4, 9, 23), 3);
        plan(day(5, 8, 0, 4, 9, 23), 4, 5);
        plan(day(5, 8, 0, 4, 9, 23), 2, 5, 7);
    }

    private static void doings() {
        FarSide x = new FarSide();
        for (int i = 1; i <= 6; i++) {
            Due.is("a doing", x.miss(3 * i, 3 * i), i);
        }
        Edges.refused(x, -2, () -> x.miss(22, 22));
        plan(x, 1, 3, 6, 9, 12, 15, 18);
        plan(day(5, 7), 1, 5, 6, 7);
        plan(day(23, 23), 1, 23);
        FarSide y = day(5, 7);
        y.miss(7, 9);
        plan(y, 5, 5);
        plan(y, 4, 2, 6);
    }

    private static void meetings() {
        FarSide x = day(10, 10);
        for (int i = 1; i <= 6; i++) {
            Due.is("a meeting", x.meeting(10 - i, 10 - i), i);
        }
        Edges.refused(x, -2, () -> x.meeting(0, 0));
        plan(x, 24, 10);
        plan(day(5, 5, 3, 3, 7, 7), 2, 4);
        plan(day(5, 5, 3, 3, 7, 7), 3, 4);
        noWay(day(5, 5, 3, 3, 7, 7), 4);
        noWay(day(5, 5, 5, 5), 1);
        noWay(day(5, 7, 7, 9), 1);
        plan(day(5, 6, 7, 9), 1, 5, 6);
    }

    private static void fewestBites() {
        FarSide x = day(5, 5);
        x.miss(7, 7);
        plan(x, 2, 4, 6);
        plan(x, 3, 5);
        x.meeting(6, 6);
        plan(x, 2, 4, 7);
        noWay(day(5, 6, 4, 4, 7, 7), 3);
        plan(x, 3, 3, 7);
    }

    private static void earliest() {
        FarSide x = day(2, 2);
        x.miss(6, 6);
        x.miss(9, 9);
        plan(x, 4, 0, 6);
        plan(x, 5, 0, 5);
        plan(x, 1, 2, 6, 9);
        plan(x, 3, 0, 4, 7);
        FarSide y = day(0, 0);
        y.miss(23, 23);
        plan(y, 2, 0, 22);
        plan(y, 23, 0, 23);
    }

    private static void withoutDoings() {
        plan(new FarSide(), 1);
        plan(new FarSide(), 24);
        FarSide x = new FarSide();
        x.meeting(0, 23);
        plan(x, 1);
        plan(x, 24);
        x.miss(0, 0);
        noWay(x, 1);
        noWay(x, 24);
        x.miss(-1, 0);
        plan(x, 24);
    }

    private static void needs(FarSide x, int fewest, int most) {
        Due.is("need(0)", x.need(0), fewest);
        Due.is("need(1)", x.need(1), most);
    }

    private static void needed() {
        needs(new FarSide(), 1, 24);
        needs(day(0, 23), 1, 24);
        needs(day(0, 0), 1, 24);
        needs(day(0, 0, 1, 1), 1, 1);
        needs(day(0, 0, 23, 23), 1, 23);
        needs(day(23, 23, 0, 22), 1, 24);
        needs(day(5, 8, 0, 4, 9, 23), 1, 4);
        needs(day(5, 5, 5, 5), -1, -1);
        needs(day(0, 0, 0, 0), -1, -1);
        needs(day(23, 23, 23, 23), -1, -1);
        FarSide x = new FarSide();
        x.meeting(0, 23);
        needs(x, 1, 24);
    }
}
