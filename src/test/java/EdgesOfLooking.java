// Promises 18 to 22 and 43 to 51: what is seen of people, places and the book, and the image.
final class EdgesOfLooking {
    private EdgesOfLooking() {
    }

    static void run() {
        Edges.promise(18, "Of a PERSON: 0 PLACE, 1 BASE, 2 DEPTH, 3 CLOVES, 4 SINCE, 5 bites, 6 returns now.", EdgesOfLooking::ofPerson);
        Edges.promise(18, "-100 for others.", EdgesOfLooking::ofNobody);
        Edges.promise(19, "Of a PLACE: 0 the one BEHIND, 1 JOY, 2 PEOPLE there (bits).", EdgesOfLooking::ofPlace);
        Edges.promise(19, "-100 for others.", EdgesOfLooking::ofNoPlace);
        Edges.promise(20, "0 HOUR, 1 X, 2 CLOVES of all, 3 DEPTHS of all.", EdgesOfLooking::ofAll);
        Edges.promise(20, "-2 for others.", EdgesOfLooking::ofNothing);
        Edges.promise(21, "BOOK: how many (i NONE); the i-th, from the eldest on", EdgesOfLooking::book);
        Edges.promise(21, "-2 if there is none such, and for others.", EdgesOfLooking::noLine);
        Edges.promise(22, "FORETOLD: DEPTH.", EdgesOfLooking::foretold);
        Edges.promise(22, "NONE for others.", EdgesOfLooking::notForetold);
        Edges.promise(43, "WHOSE LAW (bits).", EdgesOfLooking::whose);
        Edges.promise(44, "DEEPEST.", EdgesOfLooking::deepest);
        Edges.promise(44, "NONE: none.", EdgesOfLooking::nobodyDeep);
        Edges.promise(45, "AWAY (bits).", EdgesOfLooking::away);
        Edges.promise(46, "ALONE (bits).", EdgesOfLooking::alone);
        Edges.promise(47, "GLADDEST.", EdgesOfLooking::gladdest);
        Edges.promise(47, "NONE: none.", EdgesOfLooking::nobodyGlad);
        Edges.promise(48, "BY THE BOOK.", EdgesOfLooking::ledger);
        Edges.promise(48, "-2 for others (0 .. 2).", EdgesOfLooking::noKind);
        Edges.promise(49, "THE IMAGE is as all is now: HOUR.", EdgesOfLooking::image);
        Edges.promise(50, "BACK to THE IMAGE (it stays): HOUR.", EdgesOfLooking::back);
        Edges.promise(51, "0 PEOPLE, 1 TEXTS, 2 THE TEXT (NONE), 3 STEPS that can be taken back, 4 DOINGS, 5 MEETINGS, 6 ENTRIES, 7 SAID,"
            + " 8 bytes of the tape.", EdgesOfLooking::about);
        Edges.promise(51, "-2 for others.", EdgesOfLooking::aboutNothing);
    }

    private static void ofPerson() {
        FarSide x = Make.row();
        Make.people(x, 4, 0, 0);
        x.person(2, 99);
        Make.parts(x, 4, 2, 2, 0, 99, 0, 1, 2);
        x.hour(3);
        Make.parts(x, 4, 2, 2, 0, 99, 3, 1, 2);
        Make.bites(x, 4, 8);
        Make.parts(x, 4, 7, 2, 8, 91, 0, 1, 10);
        Make.parts(x, 0, 0, 0, 0, 0, 3, 1, 2);
        Make.rule(x, "bites cloves - 95; returns who + 2;");
        Make.parts(x, 4, 7, 2, 8, 91, 0, -4, 6);
    }

    private static void ofNobody() {
        FarSide x = Make.one(9);
        Edges.refused(x, -100, () -> x.of(0, -1), () -> x.of(0, 7), () -> x.of(1, 0), () -> x.of(-1, 0), () -> x.of(5, 0),
            () -> x.of(0, Integer.MAX_VALUE), () -> x.of(0, Integer.MIN_VALUE), () -> x.of(Integer.MAX_VALUE, 0),
            () -> x.of(Integer.MIN_VALUE, 0));
        FarSide y = new FarSide();
        Edges.refused(y, -100, () -> y.of(0, 0));
        Make.people(y, 5, 0, 0);
        Edges.refused(y, -100, () -> y.of(5, 0));
    }

    private static void ofPlace() {
        FarSide x = Make.ring();
        x.joy(7, -9);
        Make.people(x, 5, 7, 9);
        Due.is("behind the last", x.place(7, 0), 0);
        Due.is("its joy", x.place(7, 1), -9);
        Due.is("all are there", x.place(7, 2), 31);
        Due.is("nobody is there", x.place(0, 2), 0);
        x.bite(4);
        Due.is("the last is there", x.place(0, 2), 16);
        Due.is("all others", x.place(7, 2), 15);
        Due.is("without joy", x.place(0, 1), 0);
    }

    private static void ofNoPlace() {
        FarSide x = new FarSide();
        Edges.refused(x, -100, () -> x.place(-1, 0), () -> x.place(8, 0), () -> x.place(0, -1), () -> x.place(0, 3),
            () -> x.place(Integer.MAX_VALUE, 0), () -> x.place(Integer.MIN_VALUE, 0), () -> x.place(0, Integer.MAX_VALUE),
            () -> x.place(0, Integer.MIN_VALUE));
    }

    private static void all(FarSide x, int... want) {
        for (int what = 0; what <= 3; what++) {
            Due.is("is(" + what + ")", x.is(what), want[what]);
        }
    }

    private static void ofAll() {
        FarSide x = new FarSide();
        all(x, 0, 383, 0, 0);
        Make.people(x, 5, 0, 99);
        all(x, 0, 383, 495, 0);
        for (int person = 0; person < 5; person++) {
            Make.bites(x, person, 8);
        }
        all(x, 0, 383, 455, 40);
        Make.rule(x, "returns 0;");
        x.hour(1);
        all(x, 1, 24875, 455, 40);
    }

    private static void ofNothing() {
        FarSide x = Make.one(9);
        Edges.refused(x, -2, () -> x.is(-1), () -> x.is(4), () -> x.is(Integer.MAX_VALUE), () -> x.is(Integer.MIN_VALUE));
    }

    private static void book() {
        FarSide x = Make.one(9);
        Due.is("none", x.book(-1, 0), 0);
        Make.pass(x, 9999);
        x.walk(0, 7);
        Due.is("one", x.book(-1, 0), 1);
        Make.line(x, 0, 9999, 0, 2, 7);
        FarSide y = Make.ring();
        Make.people(y, 5, 7, 99);
        y.bite(4);
        for (int i = 0; i < 29; i++) {
            y.walk(0, i % 7);
        }
        Due.is("thirty", y.book(-1, 0), 30);
        Make.line(y, 0, 0, 4, 0, 0);
        Make.line(y, 29, 0, 0, 2, 0);
        y.come(4);
        Due.is("thirty at most", y.book(-1, 0), 30);
        Make.line(y, 0, 0, 0, 2, 0);
        Make.line(y, 1, 0, 0, 2, 1);
        Make.line(y, 29, 0, 4, 1, 7);
    }

    private static void noLine() {
        FarSide x = Make.one(9);
        Edges.refused(x, -2, () -> x.book(0, 0), () -> x.book(-2, 0));
        x.bite(0);
        Edges.refused(x, -2, () -> x.book(1, 0), () -> x.book(0, -1), () -> x.book(0, 4), () -> x.book(-2, 0), () -> x.book(30, 0),
            () -> x.book(Integer.MAX_VALUE, 0), () -> x.book(Integer.MIN_VALUE, 0), () -> x.book(0, Integer.MAX_VALUE),
            () -> x.book(0, Integer.MIN_VALUE));
        for (int i = 0; i < 40; i++) {
            x.bite(0);
            x.come(0);
        }
        Edges.refused(x, -2, () -> x.book(30, 0));
        x.undo();
        x.undo();
        FarSide y = Make.one(9);
        y.bite(0);
        y.undo();
        Edges.refused(y, -2, () -> y.book(0, 0));
    }

    private static void foretold() {
        FarSide x = Make.row();
        Make.people(x, 5, 0, 9);
        Make.bites(x, 4, 8);
        Make.rule(x, "returns 10;");
        Due.is("of one at home", x.foretold(1, 0), 0);
        Due.is("of the last behind one hour", x.foretold(1, 4), 7);
        Due.is("of the last behind eight", x.foretold(8, 4), 0);
        Due.is("of the last behind sixty", x.foretold(60, 4), 0);
        Due.is("nothing is done", x.of(4, 2), 8);
    }

    private static void notForetold() {
        FarSide x = Make.one(9);
        x.bite(0);
        Edges.refused(x, -1, () -> x.foretold(0, 0), () -> x.foretold(61, 0), () -> x.foretold(1, 1), () -> x.foretold(1, -1),
            () -> x.foretold(-1, 0), () -> x.foretold(1, 5), () -> x.foretold(Integer.MAX_VALUE, 0),
            () -> x.foretold(Integer.MIN_VALUE, 0), () -> x.foretold(1, Integer.MAX_VALUE), () -> x.foretold(1, Integer.MIN_VALUE));
        FarSide y = new FarSide();
        Edges.refused(y, -1, () -> y.foretold(1, 0));
    }

    private static void whose() {
        FarSide x = Make.one(9);
        Due.is("no texts", x.whose(), 0);
        x.said(0, 2);
        Due.is("no texts, though it is said", x.whose(), 0);
        for (int i = 0; i < 4; i++) {
            Due.read(x, "returns " + 2 * i + ";");
        }
        Due.is("the second", x.whose(), 2);
        x.said(-1, 0);
        x.said(0, 6);
        Due.is("the last", x.whose(), 8);
        x.said(0, 4);
        Due.is("none says both", x.whose(), 0);
        x.said(-1, 0);
        Due.is("all", x.whose(), 15);
    }

    private static void deepest() {
        FarSide x = Make.row();
        Make.people(x, 5, 0, 9);
        Make.bites(x, 4, 1);
        Due.is("of depth 1", x.deepest(), 4);
        Make.bites(x, 3, 8);
        Due.is("of depth 8", x.deepest(), 3);
    }

    private static void nobodyDeep() {
        FarSide x = new FarSide();
        Due.is("nobody there", x.deepest(), -1);
        x.person(7, 9);
        Due.is("nobody away", x.deepest(), -1);
        x.bite(0);
        x.come(0);
        Due.is("nobody any more", x.deepest(), -1);
    }

    private static void away() {
        FarSide x = new FarSide();
        Due.is("nobody there", x.away(), 0);
        Make.people(x, 5, 7, 9);
        Due.is("nobody away", x.away(), 0);
        x.bite(4);
        Due.is("the last", x.away(), 16);
        x.come(4);
        Due.is("nobody any more", x.away(), 0);
    }

    private static void alone() {
        FarSide x = new FarSide();
        Due.is("nobody there", x.alone(), 0);
        for (int person = 0; person < 5; person++) {
            x.person(person, 9);
        }
        Due.is("all five", x.alone(), 31);
        x.walk(4, 3);
        Due.is("the last two are together", x.alone(), 7);
    }

    private static void gladdest() {
        FarSide x = Make.row();
        x.joy(7, 9);
        Make.people(x, 4, 0, 9);
        x.person(7, 9);
        Due.is("the last", x.gladdest(), 4);
        x.walk(0, 7);
        Due.is("the first", x.gladdest(), 0);
    }

    private static void nobodyGlad() {
        FarSide x = new FarSide();
        x.joy(0, 9);
        Due.is("nobody there", x.gladdest(), -1);
        x.joy(0, -9);
        x.person(0, 0);
        Due.is("one there", x.gladdest(), 0);
    }

    private static void ledger() {
        FarSide x = Make.one(99);
        Due.is("none", x.ledger(0), 0);
        for (int i = 0; i < 31; i++) {
            x.walk(0, (i + 1) % 8);
        }
        Due.is("of the latest thirty", x.ledger(2), 30);
        x.bite(0);
        x.come(0);
        Due.is("walked", x.ledger(2), 28);
        Due.is("bitten", x.ledger(0), 1);
        Due.is("come back", x.ledger(1), 1);
    }

    private static void noKind() {
        FarSide x = Make.one(9);
        x.bite(0);
        Edges.refused(x, -2, () -> x.ledger(-1), () -> x.ledger(3), () -> x.ledger(Integer.MAX_VALUE),
            () -> x.ledger(Integer.MIN_VALUE));
    }

    private static void image() {
        FarSide x = Make.one(9);
        Due.is("at first", x.image(), 0);
        Make.pass(x, 9999);
        x.bite(0);
        String before = Edges.seen(x);
        Due.is("the last hour", x.image(), 9999);
        x.undo();
        x.undo();
        x.person(0, 9);
        x.back();
        Due.same("what is seen", Edges.seen(x), before);
        Due.is("making it is no step", x.about(3), 30);
    }

    private static void back() {
        FarSide x = Make.one(9);
        Due.is("the image of a new one", x.back(), 0);
        Due.is("nobody", x.about(0), 0);
        Make.people(x, 5, 0, 9);
        x.hour(7);
        x.image();
        String before = Edges.seen(x);
        for (int i = 0; i < 3; i++) {
            x.hour(5);
            x.bite(i);
            x.behind(i, 7);
            Due.is("the hour", x.back(), 7);
            Due.same("it stays", Edges.seen(x), before);
        }
    }

    private static void about() {
        FarSide x = new FarSide();
        for (int what = 0; what <= 8; what++) {
            Due.is("at first", x.about(what), what == 2 ? -1 : 0);
        }
        Make.people(x, 5, 0, 9);
        for (int i = 0; i < 4; i++) {
            Due.read(x, "returns 3;");
        }
        x.by(3);
        x.hour(40);
        for (int i = 0; i < 20; i++) {
            x.miss(i, i);
            x.meeting(i, i);
            x.entry(6);
            x.said(0, 0);
            x.feed(0, 0, 0, 0, 0);
        }
        int[] most = {5, 4, 3, 30, 6, 6, 16, 8, 300};
        for (int what = 0; what <= 8; what++) {
            Due.is("at most", x.about(what), most[what]);
        }
        x.by(0);
        Due.is("the first text", x.about(2), 0);
        x.by(-1);
        Due.is("no text", x.about(2), -1);
    }

    private static void aboutNothing() {
        FarSide x = Make.one(9);
        Edges.refused(x, -2, () -> x.about(-1), () -> x.about(9), () -> x.about(Integer.MAX_VALUE), () -> x.about(Integer.MIN_VALUE));
    }
}
