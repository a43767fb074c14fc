// Promises 31 to 42: the day and its plans, the ledger, what hours are worth, odds, longing, and what is said.
final class EdgesOfCounting {
    private static final int LEAST = Integer.MIN_VALUE;
    private static final int MOST = Integer.MAX_VALUE;

    private EdgesOfCounting() {
    }

    static void run() {
        Edges.promise(31, "A DOING to be missed: how many there are (from NONE: none any more).", EdgesOfCounting::miss);
        Edges.promise(31, "-2 for others (0 .. 23, from to to), or if there are 6.", EdgesOfCounting::noDoing);
        Edges.promise(32, "A MEETING to be had: how many there are (from NONE: none any more).", EdgesOfCounting::meeting);
        Edges.promise(32, "-2 for others (likewise), or if there are 6.", EdgesOfCounting::noMeeting);
        Edges.promise(33, "A PLAN: how many bites (i NONE), the hour of the i-th.", EdgesOfCounting::plan);
        Edges.promise(33, "-2: no way, there is none such, and for others (hours 1 .. 24).", EdgesOfCounting::noPlan);
        Edges.promise(34, "NEEDED: 0 the fewest hours a bite must last, 1 the most it may.", EdgesOfCounting::need);
        Edges.promise(34, "NONE: no way, and for others.", EdgesOfCounting::noNeed);
        Edges.promise(35, "AN ENTRY of the ledger: how many there are (value NONE: none any more).", EdgesOfCounting::entry);
        Edges.promise(35, "-2 for others (0 .. 6), or if there are 16.", EdgesOfCounting::noEntry);
        Edges.promise(36, "THE LAW of the ledger: 0 of how many, 1 .. 8 the factor of the entry so many ahead, 9 the next entry.",
            EdgesOfCounting::law);
        Edges.promise(36, "NONE for others.", EdgesOfCounting::noLaw);
        Edges.promise(37, "FITS: by how many laws of so many ahead all entries fit.", EdgesOfCounting::fits);
        Edges.promise(37, "NONE for others (0 .. 3).", EdgesOfCounting::noFits);
        Edges.promise(38, "WORTH.", EdgesOfCounting::worth);
        Edges.promise(38, "-10000 for others (0 .. 20).", EdgesOfCounting::noWorth);
        Edges.promise(39, "BEST: 0 to stay, 1 to bite, 2 to come back.", EdgesOfCounting::best);
        Edges.promise(39, "NONE for others (1 .. 20).", EdgesOfCounting::noBest);
        Edges.promise(40, "LIKELY: the upper (low false), the lower one (low true).", EdgesOfCounting::likely);
        Edges.promise(40, "NONE for others (n 0 .. 6; 0 .. 8).", EdgesOfCounting::notLikely);
        Edges.promise(41, "LONGING: the upper (low false), the lower one (low true).", EdgesOfCounting::longing);
        Edges.promise(41, "NONE: never, and for others.", EdgesOfCounting::noLonging);
        Edges.promise(42, "SAID: how many there are (person NONE: none any more).", EdgesOfCounting::said);
        Edges.promise(42, "-2 for others (0 .. 10), or if there are 8.", EdgesOfCounting::notSaid);
    }

    private static void miss() {
        FarSide x = new FarSide();
        Due.is("none of none", x.miss(-1, 0), 0);
        Due.is("the first hour", x.miss(0, 0), 1);
        Due.is("the last hour", x.miss(23, 23), 2);
        Due.is("all hours", x.miss(0, 23), 3);
        Due.is("the same again", x.miss(0, 23), 4);
        Due.is("none any more, whatever to", x.miss(-1, 99), 0);
        Due.is("none", x.about(4), 0);
        Due.is("no bites", x.plan(1, -1), 0);
        Due.is("one again", x.miss(7, 8), 1);
        Due.is("of it alone", x.plan(1, -1), 2);
    }

    private static void noDoing() {
        FarSide x = new FarSide();
        x.miss(7, 8);
        Edges.refused(x, -2, () -> x.miss(-2, 5), () -> x.miss(5, 24), () -> x.miss(24, 24), () -> x.miss(5, 4), () -> x.miss(0, -1),
            () -> x.miss(LEAST, 5), () -> x.miss(MOST, MOST), () -> x.miss(5, MOST), () -> x.miss(5, LEAST));
        Due.is("the plan is as it was", x.plan(1, -1), 2);
        for (int i = 0; i < 5; i++) {
            x.miss(7, 8);
        }
        Edges.refused(x, -2, () -> x.miss(7, 8), () -> x.miss(0, 0));
        Due.is("the plan is as it was", x.plan(1, -1), 2);
    }

    private static void meeting() {
        FarSide x = new FarSide();
        x.miss(7, 8);
        Due.is("none of none", x.meeting(-1, 0), 0);
        Due.is("the first hour", x.meeting(0, 0), 1);
        Due.is("the last hour", x.meeting(23, 23), 2);
        Due.is("all hours", x.meeting(0, 23), 3);
        Due.is("the same again", x.meeting(0, 23), 4);
        Due.is("no way", x.plan(1, -1), -2);
        Due.is("none any more, whatever to", x.meeting(-1, 99), 0);
        Due.is("none", x.about(5), 0);
        Due.is("the doing stays", x.plan(1, -1), 2);
        Due.is("one again", x.meeting(9, 9), 1);
        Due.is("of it alone", x.plan(3, 0), 6);
    }

    private static void noMeeting() {
        FarSide x = new FarSide();
        x.miss(5, 5);
        x.meeting(7, 7);
        Edges.refused(x, -2, () -> x.meeting(-2, 5), () -> x.meeting(5, 24), () -> x.meeting(24, 24), () -> x.meeting(5, 4),
            () -> x.meeting(0, -1), () -> x.meeting(LEAST, 5), () -> x.meeting(MOST, MOST), () -> x.meeting(5, MOST),
            () -> x.meeting(5, LEAST));
        for (int i = 0; i < 5; i++) {
            x.meeting(7, 7);
        }
        Edges.refused(x, -2, () -> x.meeting(5, 5), () -> x.meeting(7, 7));
        Due.is("the need is as it was", x.need(1), 7);
        Due.is("doings are others", x.miss(6, 6), 2);
    }

    private static void plan() {
        FarSide x = new FarSide();
        Due.is("no bites", x.plan(1, -1), 0);
        Due.is("no bites", x.plan(24, -1), 0);
        x.miss(0, 23);
        Due.is("one of 24", x.plan(24, -1), 1);
        Due.is("its hour", x.plan(24, 0), 0);
        Due.is("24 of one", x.plan(1, -1), 24);
        for (int i = 0; i < 24; i++) {
            Due.is("the hour of each", x.plan(1, i), i);
        }
    }

    private static void noPlan() {
        FarSide x = new FarSide();
        Edges.refused(x, -2, () -> x.plan(1, 0), () -> x.plan(0, -1), () -> x.plan(25, -1), () -> x.plan(-1, -1), () -> x.plan(1, -2));
        x.miss(0, 23);
        Edges.refused(x, -2, () -> x.plan(1, 24), () -> x.plan(24, 1), () -> x.plan(0, 0), () -> x.plan(25, 0), () -> x.plan(1, -2),
            () -> x.plan(MOST, 0), () -> x.plan(LEAST, 0), () -> x.plan(1, MOST), () -> x.plan(1, LEAST));
        x.meeting(3, 3);
        Edges.refused(x, -2, () -> x.plan(1, -1), () -> x.plan(1, 0), () -> x.plan(24, -1), () -> x.plan(24, 0));
    }

    private static void need() {
        FarSide x = new FarSide();
        Due.is("without doings the fewest", x.need(0), 1);
        Due.is("without doings the most", x.need(1), 24);
        x.miss(2, 4);
        x.meeting(1, 1);
        x.meeting(5, 5);
        Due.is("the fewest", x.need(0), 1);
        Due.is("the most", x.need(1), 3);
    }

    private static void noNeed() {
        FarSide x = new FarSide();
        Edges.refused(x, -1, () -> x.need(-1), () -> x.need(2), () -> x.need(MOST), () -> x.need(LEAST));
        x.miss(3, 3);
        x.meeting(3, 3);
        Edges.refused(x, -1, () -> x.need(0), () -> x.need(1));
    }

    private static void entry() {
        FarSide x = new FarSide();
        Due.is("none of none", x.entry(-1), 0);
        Due.is("the least", x.entry(0), 1);
        Due.is("the most", x.entry(6), 2);
        for (int i = 3; i <= 16; i++) {
            Due.is("to 16", x.entry(0), i);
        }
        Due.is("none any more", x.entry(-1), 0);
        Due.is("none", x.about(6), 0);
        Due.is("their law", x.law(0), 0);
        Due.is("the first again", x.entry(6), 1);
        Due.is("its law", x.law(0), 1);
        x.entry(3);
        Due.is("the factor of two", x.law(1), 4);
        x.entry(-1);
        x.entry(6);
        Due.is("the factor of one, which is free again", x.law(1), 0);
    }

    private static void noEntry() {
        FarSide x = new FarSide();
        Edges.refused(x, -2, () -> x.entry(7), () -> x.entry(-2), () -> x.entry(MOST), () -> x.entry(LEAST));
        for (int i = 0; i < 16; i++) {
            x.entry(2);
        }
        Edges.refused(x, -2, () -> x.entry(2), () -> x.entry(0), () -> x.entry(7));
        Due.is("the law is as it was", x.law(9), 2);
    }

    private static void law() {
        FarSide x = new FarSide();
        for (int i = 0; i < 7; i++) {
            x.entry(0);
        }
        x.entry(4);
        x.entry(1);
        int[] want = {8, 2, 0, 0, 0, 0, 0, 0, 0, 2};
        for (int what = 0; what <= 9; what++) {
            Due.is("law(" + what + ")", x.law(what), want[what]);
        }
    }

    private static void noLaw() {
        FarSide x = new FarSide();
        x.entry(3);
        Edges.refused(x, -1, () -> x.law(-1), () -> x.law(10), () -> x.law(2), () -> x.law(MOST), () -> x.law(LEAST));
    }

    private static void fits() {
        FarSide x = new FarSide();
        Due.is("the least, without entries", x.fits(0), 1);
        Due.is("the most, without entries", x.fits(3), 343);
        x.entry(1);
        x.entry(3);
        x.entry(2);
        x.entry(6);
        int[] want = {0, 1, 7, 49};
        for (int of = 0; of <= 3; of++) {
            Due.is("fits(" + of + ")", x.fits(of), want[of]);
        }
    }

    private static void noFits() {
        FarSide x = new FarSide();
        Edges.refused(x, -1, () -> x.fits(-1), () -> x.fits(4), () -> x.fits(MOST), () -> x.fits(LEAST));
    }

    private static FarSide five() {
        FarSide x = Make.row();
        Make.people(x, 5, 0, 9);
        x.joy(0, -9);
        x.joy(1, 9);
        return x;
    }

    private static void worth() {
        FarSide x = five();
        Due.is("no hours", x.worth(4, 0), 0);
        Due.is("one hour", x.worth(4, 1), 9);
        Due.is("twenty hours", x.worth(4, 20), 180);
        Due.is("of the first", x.worth(0, 20), 180);
    }

    private static void noWorth() {
        FarSide x = five();
        Edges.refused(x, -10000, () -> x.worth(0, -1), () -> x.worth(0, 21), () -> x.worth(-1, 1), () -> x.worth(5, 1),
            () -> x.worth(0, MOST), () -> x.worth(0, LEAST), () -> x.worth(MOST, 1), () -> x.worth(LEAST, 1));
        FarSide y = new FarSide();
        Edges.refused(y, -10000, () -> y.worth(0, 0), () -> y.worth(0, 1));
    }

    private static void best() {
        FarSide x = five();
        Due.is("to bite, of one hour", x.best(4, 1), 1);
        Due.is("to bite, of twenty", x.best(4, 20), 1);
        x.bite(4);
        Due.is("to stay", x.best(4, 20), 0);
        x.bite(4);
        Due.is("to come back", x.best(4, 1), 2);
        Due.is("to come back, of twenty", x.best(4, 20), 2);
    }

    private static void noBest() {
        FarSide x = five();
        Edges.refused(x, -1, () -> x.best(0, 0), () -> x.best(0, 21), () -> x.best(0, -1), () -> x.best(-1, 1), () -> x.best(5, 1),
            () -> x.best(0, MOST), () -> x.best(0, LEAST), () -> x.best(MOST, 1), () -> x.best(LEAST, 1));
        FarSide y = new FarSide();
        Edges.refused(y, -1, () -> y.best(0, 1));
    }

    private static void odds(FarSide x, int n, int depth, long upper, long lower) {
        Due.is("the upper of " + n + ", " + depth, x.likely(4, n, depth, false), upper);
        Due.is("the lower of " + n + ", " + depth, x.likely(4, n, depth, true), lower);
    }

    private static void likely() {
        FarSide x = five();
        odds(x, 0, 0, 1, 1);
        odds(x, 0, 8, 0, 1);
        Make.bites(x, 4, 8);
        odds(x, 0, 8, 1, 1);
        odds(x, 0, 0, 0, 1);
        odds(x, 6, 2, 1, 1);
        Make.rule(x, "returns 3;");
        odds(x, 6, 8, 117649, 1000000);
        odds(x, 6, 2, 729, 1000000);
        odds(x, 6, 0, 0, 1);
    }

    private static void notLikely() {
        FarSide x = five();
        Edges.refused(x, -1, () -> x.likely(0, -1, 0, false), () -> x.likely(0, 7, 0, true), () -> x.likely(0, 1, -1, false),
            () -> x.likely(0, 1, 9, true), () -> x.likely(-1, 1, 0, false), () -> x.likely(5, 1, 0, true),
            () -> x.likely(0, MOST, 0, false), () -> x.likely(0, LEAST, 0, false), () -> x.likely(0, 1, MOST, false),
            () -> x.likely(0, 1, LEAST, true), () -> x.likely(MOST, 1, 0, false), () -> x.likely(LEAST, 1, 0, false));
        FarSide y = new FarSide();
        Edges.refused(y, -1, () -> y.likely(0, 0, 0, true));
    }

    private static void longs(FarSide x, int upper, int lower) {
        Due.is("the upper", x.longing(4, false), upper);
        Due.is("the lower", x.longing(4, true), lower);
    }

    private static void longing() {
        FarSide x = five();
        longs(x, 0, 1);
        Make.bites(x, 4, 8);
        longs(x, 8, 1);
        Make.rule(x, "returns 1;");
        longs(x, 80, 1);
        Make.rule(x, "returns 7;");
        longs(x, 80, 7);
    }

    private static void noLonging() {
        FarSide x = five();
        Make.rule(x, "returns 0;");
        x.bite(4);
        Edges.refused(x, -1, () -> x.longing(4, false), () -> x.longing(4, true), () -> x.longing(-1, false),
            () -> x.longing(5, true), () -> x.longing(MOST, false), () -> x.longing(LEAST, true));
        x.come(4);
        longs(x, 0, 1);
        FarSide y = new FarSide();
        Edges.refused(y, -1, () -> y.longing(0, false), () -> y.longing(0, true));
    }

    private static void said() {
        FarSide x = five();
        Due.is("none of none", x.said(-1, 0), 0);
        Due.is("the least", x.said(0, 0), 1);
        Due.is("the most", x.said(4, 10), 2);
        for (int i = 3; i <= 8; i++) {
            Due.is("to 8", x.said(4, 10), i);
        }
        Due.is("none any more, whatever returns", x.said(-1, 99), 0);
        Due.is("none", x.about(7), 0);
        Due.is("one again", x.said(4, 10), 1);
    }

    private static void notSaid() {
        FarSide x = five();
        Due.read(x, "returns 3;");
        x.said(4, 3);
        Edges.refused(x, -2, () -> x.said(5, 3), () -> x.said(-2, 3), () -> x.said(0, -1), () -> x.said(0, 11), () -> x.said(MOST, 3),
            () -> x.said(LEAST, 3), () -> x.said(0, MOST), () -> x.said(0, LEAST));
        for (int i = 0; i < 7; i++) {
            x.said(0, 3);
        }
        Edges.refused(x, -2, () -> x.said(0, 3), () -> x.said(0, 0));
        Due.is("whose it is is as it was", x.whose(), 1);
        FarSide y = Make.one(0);
        Edges.refused(y, -2, () -> y.said(1, 3));
    }
}
