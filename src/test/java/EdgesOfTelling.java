// Promises 1 to 9: a new object, what is told, the tape, and texts.
final class EdgesOfTelling {
    private EdgesOfTelling() {
    }

    static void run() {
        Edges.promise(1, "Eight places, nobody; THE IMAGE is this.", EdgesOfTelling::newObject);
        Edges.promise(2, "A PERSON: its number.", EdgesOfTelling::personsNumber);
        Edges.promise(2, "NONE for others (PLACES; 0 .. 99), or if there are 5.", EdgesOfTelling::noPerson);
        Edges.promise(3, "BEHIND told: true.", EdgesOfTelling::behind);
        Edges.promise(3, "False for others.", EdgesOfTelling::noBehind);
        Edges.promise(4, "JOY told: true.", EdgesOfTelling::joy);
        Edges.promise(4, "False for others (-9 .. 9).", EdgesOfTelling::noJoy);
        Edges.promise(5, "Twenty bytes come behind the tape, the highest of a first: how many it has.", EdgesOfTelling::feed);
        Edges.promise(5, "NONE, and none come, if there would be more than 300.", EdgesOfTelling::fullTape);
        Edges.promise(6, "The tape has its first n bytes alone: n.", EdgesOfTelling::end);
        Edges.promise(6, "NONE, and nothing is done, if it has not so many, or n is below 0.", EdgesOfTelling::noEnd);
        Edges.promise(7, "The tape (empty then) is a TEXT: its number.", EdgesOfTelling::text);
        Edges.promise(7, "NONE: it has a FAULT", EdgesOfTelling::textWithFault);
        Edges.promise(7, "or (the tape stays) there are 4.", EdgesOfTelling::fifthText);
        Edges.promise(8, "Of the latest text that was read: 0 its FAULT (0 without), 1 its place (NONE without).", EdgesOfTelling::fault);
        Edges.promise(8, "NONE for others, and ahead of any.", EdgesOfTelling::noFault);
        Edges.promise(9, "THE TEXT (NONE: none): true.", EdgesOfTelling::by);
        Edges.promise(9, "False for others.", EdgesOfTelling::notBy);
    }

    private static void newObject() {
        FarSide x = new FarSide();
        String before = Edges.seen(x);
        Due.is("nobody", x.about(0), 0);
        Due.is("the eighth place", x.place(7, 0), 7);
        Edges.refused(x, -100, () -> x.place(8, 0), () -> x.of(0, 0));
        Due.is("back to what is", x.back(), 0);
        Due.same("it is as it was", Edges.seen(x), before);
        Make.people(x, 5, 3, 9);
        x.behind(7, 0);
        x.joy(0, -9);
        x.bite(4);
        x.years(9, 40);
        Make.rule(x, "bites 0;");
        x.miss(0, 0);
        x.meeting(1, 1);
        x.entry(1);
        x.said(0, 1);
        Due.is("back to what was", x.back(), 0);
        // The latest fault isn't in the image: it is 0 by now.
        Due.same("all is as it was", Edges.seen(x), before.replaceFirst("-1 -1$", "0 -1"));
    }

    private static void personsNumber() {
        FarSide x = Make.row();
        Due.is("the least of all", x.person(0, 0), 0);
        Due.is("the most of all", x.person(7, 99), 1);
        Make.parts(x, 0, 0, 0, 0, 0, 0);
        Make.parts(x, 1, 7, 7, 0, 99, 0);
        Due.is("the third", x.person(3, 5), 2);
        Due.is("the fourth", x.person(3, 5), 3);
        Due.is("the fifth", x.person(3, 5), 4);
    }

    private static void noPerson() {
        FarSide x = Make.row();
        Edges.refused(x, -1, () -> x.person(-1, 0), () -> x.person(8, 0), () -> x.person(0, -1), () -> x.person(0, 100),
            () -> x.person(Integer.MIN_VALUE, 0), () -> x.person(Integer.MAX_VALUE, 0), () -> x.person(8, 100),
            () -> x.person(0, Integer.MIN_VALUE), () -> x.person(0, Integer.MAX_VALUE));
        Make.people(x, 5, 3, 9);
        Edges.refused(x, -1, () -> x.person(3, 9), () -> x.person(0, 0), () -> x.person(8, 0));
    }

    private static void behind() {
        FarSide x = new FarSide();
        Due.yes("the first", x.behind(0, 7));
        Due.yes("the last", x.behind(7, 0));
        Due.yes("itself", x.behind(3, 3));
        Due.is("behind 0", x.place(0, 0), 7);
        Due.is("behind 7", x.place(7, 0), 0);
        Due.yes("another", x.behind(0, 1));
        Due.is("behind 0 now", x.place(0, 0), 1);
    }

    private static void noBehind() {
        FarSide x = Make.ring();
        Edges.refused(x, 0, () -> Edges.bit(x.behind(-1, 3)), () -> Edges.bit(x.behind(8, 3)),
            () -> Edges.bit(x.behind(3, -1)), () -> Edges.bit(x.behind(3, 8)),
            () -> Edges.bit(x.behind(Integer.MIN_VALUE, 3)), () -> Edges.bit(x.behind(3, Integer.MAX_VALUE)));
    }

    private static void joy() {
        FarSide x = new FarSide();
        Due.yes("the least", x.joy(0, -9));
        Due.yes("the most", x.joy(7, 9));
        Due.is("of 0", x.place(0, 1), -9);
        Due.is("of 7", x.place(7, 1), 9);
        Due.yes("another", x.joy(7, 0));
        Due.is("of 7 now", x.place(7, 1), 0);
    }

    private static void noJoy() {
        FarSide x = new FarSide();
        x.joy(3, 4);
        Edges.refused(x, 0, () -> Edges.bit(x.joy(-1, 0)), () -> Edges.bit(x.joy(8, 0)),
            () -> Edges.bit(x.joy(3, -10)), () -> Edges.bit(x.joy(3, 10)),
            () -> Edges.bit(x.joy(Integer.MAX_VALUE, 0)), () -> Edges.bit(x.joy(3, Integer.MIN_VALUE)));
    }

    private static void feed() {
        FarSide x = new FarSide();
        String text = "bites 12 +  3 * 4; \n";
        int[] words = new int[5];
        for (int i = 0; i < 5; i++) {
            words[i] = Due.word(text, 4 * i);
        }
        Due.is("twenty", x.feed(words[0], words[1], words[2], words[3], words[4]), 20);
        Due.is("behind them", x.feed(Due.word("hour", 0), Due.word(" 1; ", 0), 0x20202020, 0x20202020, 0x20202021), 40);
        Due.is("the last byte is no token", x.text(), -1);
        Due.is("it is the fortieth", x.fault(1), 39);
        for (int bytes = 20; bytes <= 300; bytes += 20) {
            Due.is("how many", x.feed(0x20202020, 0x20202020, 0x20202020, 0x20202020, 0x2020200a), bytes);
        }
        Due.is("300 blanks", x.text(), 0);
        x.feed(-1, 0x80ff7f00, 0, 0, 0);
        Due.is("bytes above 127", x.text(), -1);
        Due.is("are no tokens", x.fault(1), 0);
    }

    private static void fullTape() {
        FarSide x = new FarSide();
        Due.tape(x, "bite 0;" + " ".repeat(274));
        Edges.refused(x, -1, () -> x.feed(0, 0, 0, 0, 0), () -> x.feed(-1, -1, -1, -1, -1));
        Due.is("none have come", x.about(8), 281);
        Due.is("of 280", x.end(280), 280);
        Due.is("to just 300", x.feed(0x20202020, 0x20202020, 0x20202020, 0x20202020, 0x20202020), 300);
        Edges.refused(x, -1, () -> x.feed(0, 0, 0, 0, 0));
        Due.is("its bytes are as they were", x.text(), 0);
    }

    private static void end() {
        FarSide x = new FarSide();
        Due.is("none of none", x.end(0), 0);
        Due.tape(x, "bite 0;bite 1;bite");
        Due.is("all of them", x.end(18), 18);
        Due.is("the first 14", x.end(14), 14);
        Due.is("how many", x.about(8), 14);
        x.feed(0x20202020, 0x20202020, 0x20202020, 0x20202020, 0x20202021);
        Due.is("what comes then comes behind these", x.about(8), 34);
        Due.is("but one", x.end(33), 33);
        Due.is("the first alone", x.text(), 0);
        x.feed(0, 0, 0, 0, 0);
        Due.is("none", x.end(0), 0);
        Due.is("an empty one", x.text(), 1);
    }

    private static void noEnd() {
        FarSide x = new FarSide();
        Edges.refused(x, -1, () -> x.end(1), () -> x.end(-1));
        Due.tape(x, "bite 0;");
        Edges.refused(x, -1, () -> x.end(8), () -> x.end(-1), () -> x.end(300), () -> x.end(Integer.MAX_VALUE),
            () -> x.end(Integer.MIN_VALUE));
        Due.is("nothing is done", x.text(), 0);
    }

    private static void text() {
        FarSide x = new FarSide();
        Due.is("an empty tape", x.text(), 0);
        Due.is("one of a text", Due.read(x, "bites 3;"), 1);
        Due.is("empty then", x.about(8), 0);
        Due.is("empty again", x.text(), 2);
        Due.is("the last", Due.read(x, "bites 4;"), 3);
        Due.is("empty then", x.about(8), 0);
        Due.is("four", x.about(1), 4);
    }

    private static void textWithFault() {
        FarSide x = new FarSide();
        Due.is("a fault", Due.read(x, "bites 3"), -1);
        Due.is("empty then, too", x.about(8), 0);
        Due.is("no text", x.about(1), 0);
        Due.is("the next has its number", Due.read(x, "bites 3;"), 0);
        Due.is("nothing of one with a fault stays", Due.read(x, "returns 3; x"), -1);
        Due.is("its law neither", Due.read(x, "returns 4; bites 2;"), 1);
    }

    private static void fifthText() {
        FarSide x = new FarSide();
        for (int i = 0; i < 4; i++) {
            Due.read(x, "bites " + i + ";");
        }
        Due.tape(x, "bites 4;");
        Edges.refused(x, -1, () -> x.text(), () -> x.text());
        Due.is("the tape stays", x.about(8), 8);
        Due.tape(x, "bites 10000;");
        Edges.refused(x, -1, () -> x.text());
        Due.is("with a fault, too", x.about(8), 12);
        Due.is("the latest that was read has none", x.fault(0), 0);
        x.back();
        Due.is("now it is read", x.text(), -1);
        Due.is("its fault", x.fault(0), 2);
    }

    private static void fault() {
        FarSide x = new FarSide();
        Due.read(x, " x");
        Due.is("its fault", x.fault(0), 1);
        Due.is("its place", x.fault(1), 1);
        Due.read(x, "hour 61;");
        Due.is("of the latest", x.fault(0), 2);
        Due.is("its place", x.fault(1), 5);
        Due.read(x, "hour 60;");
        Due.is("without", x.fault(0), 0);
        Due.is("no place", x.fault(1), -1);
        Due.read(x, "x");
        Due.is("a place of 0", x.fault(1), 0);
    }

    private static void noFault() {
        FarSide x = new FarSide();
        Due.is("ahead of any", x.fault(0), -1);
        Due.is("ahead of any", x.fault(1), -1);
        Edges.refused(x, -1, () -> x.fault(2), () -> x.fault(-1));
        Due.tape(x, "x");
        Due.is("that isn't read yet", x.fault(0), -1);
        x.text();
        Edges.refused(x, -1, () -> x.fault(2), () -> x.fault(-1), () -> x.fault(Integer.MAX_VALUE), () -> x.fault(Integer.MIN_VALUE));
    }

    private static void by() {
        FarSide x = Make.one(9);
        Due.yes("none of none", x.by(-1));
        for (int i = 0; i < 4; i++) {
            Due.read(x, "bites " + (i + 5) + ";");
        }
        Due.yes("the first", x.by(0));
        Due.is("bites by it", x.of(0, 5), 5);
        Due.yes("the last", x.by(3));
        Due.is("bites by it", x.of(0, 5), 8);
        Due.yes("the same again", x.by(3));
        Due.yes("none", x.by(-1));
        Due.is("bites by none", x.of(0, 5), 1);
        Due.is("none", x.about(2), -1);
    }

    private static void notBy() {
        FarSide x = Make.one(9);
        Edges.refused(x, 0, () -> Edges.bit(x.by(0)), () -> Edges.bit(x.by(-2)));
        Make.rule(x, "bites 5;");
        Edges.refused(x, 0, () -> Edges.bit(x.by(1)), () -> Edges.bit(x.by(-2)), () -> Edges.bit(x.by(4)),
            () -> Edges.bit(x.by(Integer.MAX_VALUE)), () -> Edges.bit(x.by(Integer.MIN_VALUE)));
    }
}
