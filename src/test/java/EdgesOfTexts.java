// Part II of the terms: tokens, clauses, sums, faults, and what laws say.
final class EdgesOfTexts {
    private static final String ALL_BITES = "bite 0;".repeat(24);

    private EdgesOfTexts() {
    }

    static void run() {
        tokensAndClauses();
        sumsAndNames();
        Edges.term("FAULTS, the first as TOKENS are come to", EdgesOfTexts::firstFault);
        Edges.term("at the TOKEN's first byte (of the end at the length)", EdgesOfTexts::placeOfFault);
        Edges.term("of one the least", EdgesOfTexts::leastFault);
        Edges.term("1 it can't stand there, or is none.", EdgesOfTexts::cannotStand);
        Edges.term("2 a NUMBER that isn't one of those told (above 9999; PLACES 0 .. 7, CLOVES 0 .. 99, PEOPLE 0 .. 4, HOURS 1 .. 60).",
            EdgesOfTexts::wrongNumbers);
        Edges.term("3 the 9th of ( not behind deep if and - (of one ONE) that are open around one another (at it).",
            EdgesOfTexts::theNinth);
        Edges.term("4 bites, returns for the second time (at it).", EdgesOfTexts::secondLaw);
        Edges.term("5 a NAME that isn't of that CLAUSE (at it).", EdgesOfTexts::strangeName);
        Edges.term("6 the 25th CLAUSE (at its first TOKEN).", EdgesOfTexts::clause25);
        Edges.term("THE TEXT (told; at first none) rules.", EdgesOfTexts::ruling);
        Edges.term("bites: -99 at least, 99 at most; without: 1.", EdgesOfTexts::boundsOfBites);
        Edges.term("returns (the odds of 10): 0 at least, 10 at most; without: 2 and DEPTH.", EdgesOfTexts::boundsOfReturns);
        Edges.term("PLAYED by a TEXT: its CLAUSES but laws, in their order, as by hand", EdgesOfTexts::played);
        Edges.term("one that can't be ends it", EdgesOfTexts::endedByEach);
        Edges.term("of so many HOURS those that can pass do", EdgesOfTexts::playedHours);
        Edges.term("its number among all CLAUSES (from 0)", EdgesOfTexts::numberOfClause);
        Edges.term("what was done stays", EdgesOfTexts::whatWasDone);
    }

    private static void tokensAndClauses() {
        Edges.term("TEXTS 0 .. 3", EdgesOfTexts::texts);
        Edges.term("of up to 300 bytes", EdgesOfTexts::longest);
        Edges.term("blanks (32, 10) aside", EdgesOfTexts::blanks);
        Edges.term("letters a .. z, A .. Z one behind the other (one TOKEN)", EdgesOfTexts::letters);
        Edges.term("digits likewise (NUMBERS, 0 .. 9999)", EdgesOfTexts::digits);
        Edges.term("<= >= < > = # + - * / ( ) ; (the longest)", EdgesOfTexts::signs);
        Edges.term("{CLAUSE}, 24 at most", EdgesOfTexts::clauses);
        Edges.term("bites SUM ; or returns SUM ; (each once)", EdgesOfTexts::lawsOnce);
        Edges.term("person NUMBER cloves NUMBER ; (PLACE)", EdgesOfTexts::personClause);
        Edges.term("place NUMBER behind NUMBER ; (the first is BEHIND the second)", EdgesOfTexts::placeClause);
        Edges.term("bite NUMBER ; or come NUMBER ; or walk NUMBER to NUMBER ; or hour NUMBER ;", EdgesOfTexts::deedClauses);
        Edges.term("SUM: PRODUCT {+ or - PRODUCT}.", EdgesOfTexts::sums);
        Edges.term("PRODUCT: ONE {* or / ONE}.", EdgesOfTexts::products);
    }

    private static void sumsAndNames() {
        Edges.term("( SUM ), - ONE", EdgesOfTexts::ones);
        Edges.term("behind ONE (the PLACE BEHIND the PLACE of that number; 0 for others)", EdgesOfTexts::behindOthers);
        Edges.term("deep ONE (DEPTH of the PERSON of that number; 0 for others)", EdgesOfTexts::deepOthers);
        Edges.term("if EITHER then SUM else SUM end", EdgesOfTexts::choices);
        Edges.term("EITHER: BOTH {or BOTH}.", EdgesOfTexts::either);
        Edges.term("BOTH: ASK {and ASK}.", EdgesOfTexts::both);
        Edges.term("ASK: not ASK, or SUM one of < <= > >= = # (unlike) SUM.", EdgesOfTexts::asks);
        Edges.term("hour, who (the PERSON), place (its PLACE), depth, cloves, with (how many others are in its PLACE) in both",
            EdgesOfTexts::namesOfBoth);
        Edges.term("since in returns", EdgesOfTexts::sinceName);
        Edges.term("joy (of the PLACE BEHIND its PLACE) in bites", EdgesOfTexts::joyName);
        Edges.term("From the left", EdgesOfTexts::fromTheLeft);
        Edges.term("/ cuts towards 0", EdgesOfTexts::cuts);
        Edges.term("by 0 it is 0", EdgesOfTexts::by0);
        Edges.term("what is above 1000000 (below the same less) is that, at each step", EdgesOfTexts::million);
        Edges.term("or and and look at both sides always, of if just the SUM that is chosen is asked.", EdgesOfTexts::bothSides);
    }

    private static void good(String text) {
        Due.fault(text, 0, -1);
    }

    // A person 1 of depth 2 in place 5, and one of depth 0 in place 2, who is asked.
    private static void says(String sum, int want) {
        FarSide x = Make.land(6, 1, 3, 5, 4, 5, 6, 2);
        x.person(2, 9);
        x.person(2, 9);
        Make.bites(x, 1, 2);
        Make.rule(x, "bites " + sum + ";");
        Due.is("bites " + sum, x.of(0, 5), want);
    }

    private static void asks(String ask, boolean want) {
        says("if " + ask + " then 1 else 2 end", want ? 1 : 2);
    }

    private static void texts() {
        FarSide x = new FarSide();
        Edges.refused(x, 0, () -> Edges.bit(x.by(0)));
        for (int text = 0; text <= 3; text++) {
            Due.is("its number", Due.read(x, "bites " + text + ";"), text);
        }
        Due.tape(x, "bites 4;");
        Edges.refused(x, -1, () -> x.text());
        Edges.refused(x, 0, () -> Edges.bit(x.by(4)));
        Due.yes("the last one", x.by(3));
    }

    private static void longest() {
        String blanks = " ".repeat(292);
        good("bites 1" + blanks + ";");
        good("bites 1;" + blanks);
        Due.fault("bites 1 " + blanks, 1, 300);
        Due.fault("bites 1" + blanks + "x", 1, 299);
        good("bites " + "0".repeat(293) + ";");
        Due.fault("bites " + "1".repeat(294), 2, 6);
        Due.fault("b".repeat(300), 1, 0);
        good("bites 1" + "+1".repeat(146) + ";");
        FarSide x = Make.one(9);
        for (int i = 0; i < 4; i++) {
            Make.rule(x, "bites 1" + "-1+1".repeat(72) + "+" + i + ";");
            Due.is("the whole of it", x.of(0, 5), 1 + i);
        }
        Due.fault(";".repeat(300), 1, 0);
    }

    private static void blanks() {
        good("bites \n \n 1 \n;\n ");
        good("");
        good(" ");
        good("\n");
        char[] others = {0, 9, 11, 12, 13, 31, 33, 160, 255};
        for (char other : others) {
            Due.fault("bites" + other + "1;", 1, 5);
        }
        Due.fault("bi tes 1;", 1, 0);
        Due.fault("bites 1 0;", 1, 8);
        Due.fault("bites 1\n0;", 1, 8);
        Due.fault("bites if 1 < = 2 then 1 else 2 end;", 1, 13);
        Due.fault("bites if 1 >\n= 2 then 1 else 2 end;", 1, 13);
    }

    private static void letters() {
        good("bites(1)*depth;");
        char[] letters = {'a', 'z', 'A', 'Z'};
        for (char letter : letters) {
            Due.fault("bites depth" + letter + ";", 1, 6);
            Due.fault(letter + "bites 1;", 1, 0);
        }
        char[] others = {'@', '[', '`', '{'};
        for (char other : others) {
            Due.fault("bites depth" + other + ";", 1, 11);
        }
        Due.fault("BITES 1;", 1, 0);
        Due.fault("bites Depth;", 1, 6);
        Due.fault("bitesdepth;", 1, 0);
        Due.fault("bites dept;", 1, 6);
    }

    private static void digits() {
        good("bites 0;");
        good("bites 9999;");
        Due.fault("bites 10000;", 2, 6);
        says("0099", 99);
        says("12-03", 9);
        says("5/2", 2);
        Due.fault("bites 5:2;", 1, 7);
        Due.fault("bites 5depth;", 1, 7);
        Due.fault("bites depth5;", 1, 11);
        good("bites5;");
        Due.fault("bites 4294967296;", 2, 6);
        Due.fault("bites 18446744073709551616;", 2, 6);
    }

    private static void signs() {
        asks("2<=2", true);
        asks("3<=2", false);
        asks("2>=2", true);
        asks("2>=3", false);
        asks("2<-2", false);
        asks("2>-2", true);
        asks("2=-2", false);
        asks("2#-2", true);
        Due.fault("bites if 2=<2 then 1 else 2 end;", 1, 11);
        Due.fault("bites if 2=>2 then 1 else 2 end;", 1, 11);
        Due.fault("bites if 2<>2 then 1 else 2 end;", 1, 11);
        Due.fault("bites if 2==2 then 1 else 2 end;", 1, 11);
        Due.fault("bites if 2<==2 then 1 else 2 end;", 1, 12);
        Due.fault("bites if 2>==2 then 1 else 2 end;", 1, 12);
        String none = "!\"$%&',.:?@[\\]^_`{|}~";
        for (char sign : none.toCharArray()) {
            Due.fault("bites 1" + sign + "1;", 1, 7);
        }
        Due.fault("bites if 2<", 1, 11);
    }

    private static void clauses() {
        good("");
        good("bite 0;");
        good(ALL_BITES);
        Due.fault(ALL_BITES + "bite 0;", 6, 168);
        FarSide x = Make.row();
        Due.read(x, "person 7 cloves 0;" + "hour 1;".repeat(22) + "walk 0 to 1;");
        Due.is("all 24 are done", x.played(0), -1);
        Due.is("the last one, too", x.of(0, 1), 1);
        Due.is("22 hours", x.is(0), 22);
    }

    private static void lawsOnce() {
        good("bites 1;");
        good("returns 1;");
        good("bites 1; returns 1;");
        good("returns 1; bites 1;");
        good("bite 0; returns 1; bite 0; bites 1; bite 0;");
        Due.fault("bites 1; bites 1;", 4, 9);
        Due.fault("returns 1; returns 1;", 4, 11);
        Due.fault("bites 1", 1, 7);
        Due.fault("bites;", 1, 5);
        Due.fault("returns", 1, 7);
    }

    private static void personClause() {
        FarSide x = Make.row();
        Due.read(x, "person 0 cloves 99; person 7 cloves 0;");
        Due.is("all is done", x.played(0), -1);
        Make.parts(x, 0, 0, 0, 0, 99);
        Make.parts(x, 1, 7, 7, 0, 0);
        Due.fault("person 8 cloves 0;", 2, 7);
        Due.fault("person 0 cloves 100;", 2, 16);
        Due.fault("person 0 cloves 0", 1, 17);
        Due.fault("person 0 ; cloves 0;", 1, 9);
        Due.fault("person -1 cloves 0;", 1, 7);
    }

    private static void placeClause() {
        FarSide x = new FarSide();
        Due.read(x, "place 7 behind 0; place 0 behind 7; place 3 behind 3;");
        Due.is("all is done", x.played(0), -1);
        Due.is("7 is behind 0", x.place(0, 0), 7);
        Due.is("0 is behind 7", x.place(7, 0), 0);
        Due.is("3 is behind itself", x.place(3, 0), 3);
        Due.fault("place 8 behind 0;", 2, 6);
        Due.fault("place 0 behind 8;", 2, 15);
        Due.fault("place 0 behind 0", 1, 16);
    }

    private static void deedClauses() {
        good("bite 0; bite 4; come 0; come 4; walk 0 to 0; walk 4 to 7; hour 1; hour 60;");
        Due.fault("bite 5;", 2, 5);
        Due.fault("come 5;", 2, 5);
        Due.fault("walk 5 to 0;", 2, 5);
        Due.fault("walk 0 to 8;", 2, 10);
        Due.fault("hour 0;", 2, 5);
        Due.fault("hour 61;", 2, 5);
        Due.fault("bite 0 1;", 1, 7);
        Due.fault("come;", 1, 4);
        Due.fault("walk 0 to;", 1, 9);
        Due.fault("hour 1", 1, 6);
        Due.fault("buy 0;", 1, 0);
    }

    private static void sums() {
        says("7", 7);
        says("1+2-3+4-5", -1);
        says("2*3+4*5", 26);
        Due.fault("bites 1+;", 1, 8);
        Due.fault("bites +1;", 1, 6);
        Due.fault("bites 1++1;", 1, 8);
    }

    private static void products() {
        says("2*3*4/5", 4);
        says("9/2*2", 8);
        Due.fault("bites 1*;", 1, 8);
        Due.fault("bites /1;", 1, 6);
        Due.fault("bites 1*/1;", 1, 8);
        Due.fault("bites 1 2;", 1, 8);
    }

    private static void ones() {
        says("(7)", 7);
        says("2*(3+4)", 14);
        says("-7", -7);
        says("--7", 7);
        says("5--2", 7);
        says("-2*-3", 6);
        says("-(2-9)", 7);
        Due.fault("bites ();", 1, 7);
        Due.fault("bites (1;", 1, 8);
        Due.fault("bites 1);", 1, 7);
        Due.fault("bites -;", 1, 7);
    }

    private static void behindOthers() {
        says("behind 0", 6);
        says("behind 7", 2);
        says("behind 8", 0);
        says("behind -1", 0);
        says("behind 9999", 0);
        says("behind -9999", 0);
        says("behind (9999 * 9999)", 0);
        says("behind behind 7", 3);
        says("behind 7 + 1", 3);
        says("behind (6 + 1)", 2);
    }

    private static void deepOthers() {
        says("deep 1", 2);
        says("deep 0", 0);
        says("deep 2", 0);
        says("deep 5", 0);
        says("deep -1", 0);
        says("deep 9999", 0);
        says("deep (0 - 9999 * 9999)", 0);
        says("deep deep 1", 0);
        FarSide x = Make.row();
        Make.people(x, 5, 0, 9);
        Make.bites(x, 4, 8);
        Make.rule(x, "bites deep 4;");
        Due.is("of the last", x.of(0, 5), 8);
        Make.rule(x, "bites deep 5;");
        Due.is("beyond the last", x.of(0, 5), 0);
    }

    private static void choices() {
        says("if 1 < 2 then 3 else 4 end", 3);
        says("if 2 < 1 then 3 else 4 end", 4);
        says("if 1 < 2 then 3 else 4 end + 5", 8);
        says("10 * if 2 < 1 then 3 else 4 end", 40);
        says("if 1 < 2 then if 2 < 1 then 3 else 4 end else 5 end", 4);
        says("if 2 < 1 then 3 else if 2 < 1 then 4 else 5 end end", 5);
        Due.fault("bites if 1 < 2 then 3 end;", 1, 22);
        Due.fault("bites if 1 < 2 else 3 end;", 1, 15);
        Due.fault("bites if 1 < 2 then 3 else 4;", 1, 28);
        Due.fault("bites if 1 then 3 else 4 end;", 1, 11);
        Due.fault("bites if (1 < 2) then 3 else 4 end;", 1, 12);
    }

    private static void either() {
        asks("2 < 1 or 2 < 1", false);
        asks("1 < 2 or 2 < 1", true);
        asks("2 < 1 or 1 < 2", true);
        asks("1 < 2 or 1 < 2", true);
        asks("2 < 1 or 2 < 1 or 1 < 2", true);
        asks("1 < 2 or 1 < 2 and 2 < 1", true);
        asks("2 < 1 and 1 < 2 or 1 < 2", true);
        Due.fault("bites if or 1 < 2 then 1 else 2 end;", 1, 9);
        Due.fault("bites if 1 < 2 or then 1 else 2 end;", 1, 18);
    }

    private static void both() {
        asks("2 < 1 and 2 < 1", false);
        asks("1 < 2 and 2 < 1", false);
        asks("2 < 1 and 1 < 2", false);
        asks("1 < 2 and 1 < 2", true);
        asks("1 < 2 and 1 < 2 and 2 < 1", false);
        Due.fault("bites if and 1 < 2 then 1 else 2 end;", 1, 9);
        Due.fault("bites if 1 < 2 and then 1 else 2 end;", 1, 19);
    }

    private static void asks() {
        int[][] due = {{1, 1, 0, 0, 0, 1}, {0, 1, 0, 1, 1, 0}, {0, 0, 1, 1, 0, 1}};
        String[] signs = {"<", "<=", ">", ">=", "=", "#"};
        for (int right = 2; right >= 0; right--) {
            for (int i = 0; i < signs.length; i++) {
                asks("1 " + signs[i] + " " + right, due[2 - right][i] == 1);
                asks("not 1 " + signs[i] + " " + right, due[2 - right][i] == 0);
            }
        }
        asks("not not 1 < 2", true);
        asks("not 1 < 2 or 1 < 2", true);
        asks("not 2 < 1 and 2 < 1", false);
        Due.fault("bites if 1 < 2 < 3 then 1 else 2 end;", 1, 15);
        Due.fault("bites not 1;", 1, 6);
        Due.fault("bites 1 < 2;", 1, 8);
    }

    private static void named(FarSide x, int person, String names, int bites) {
        Make.rule(x, "bites " + names + ";");
        Due.is("bites " + names, x.of(person, 5), bites);
    }

    private static void namesOfBoth() {
        FarSide x = Make.one(0);
        named(x, 0, "hour+who+place+depth+cloves+with", 0);
        Make.pass(x, 9999);
        named(x, 0, "hour-9950", 49);
        FarSide y = Make.row();
        Make.people(y, 5, 7, 99);
        named(y, 4, "who", 4);
        named(y, 4, "place", 7);
        named(y, 4, "with", 4);
        named(y, 4, "cloves-50", 49);
        FarSide z = Make.row();
        z.person(0, 8);
        z.person(7, 8);
        Make.bites(z, 0, 8);
        named(z, 0, "depth", 8);
        named(z, 0, "place*10+with", 71);
        Make.rule(z, "returns hour+who+place+cloves+with;");
        Due.is("returns", z.of(0, 6), 8);
        good("bites hour+who+place+depth+cloves+with; returns hour+who+place+depth+cloves+with;");
    }

    private static void sinceName() {
        FarSide x = Make.ruled("returns since;", 9);
        Due.is("at first", x.of(0, 6), 0);
        Make.rule(x, "returns since-94;");
        Make.pass(x, 98);
        Due.is("behind 98", x.of(0, 6), 4);
        x.hour(2);
        Due.is("99 at most", x.of(0, 6), 5);
        Due.fault("bites since;", 5, 6);
    }

    private static void joyName() {
        FarSide x = Make.ruled("bites joy;", 9);
        x.joy(0, 5);
        x.joy(1, -9);
        x.joy(2, 9);
        Due.is("the least", x.of(0, 5), -9);
        x.walk(0, 1);
        Due.is("the most", x.of(0, 5), 9);
        x.bite(0);
        Due.is("behind the place it is in, not its base", x.of(0, 5), 0);
        x.joy(7, 4);
        x.come(0);
        x.walk(0, 7);
        Due.is("behind itself", x.of(0, 5), 4);
        Due.fault("returns joy;", 5, 8);
    }

    private static void fromTheLeft() {
        says("9-4-3", 2);
        says("9-4+3", 8);
        says("80/4/2", 10);
        says("80/4*2", 40);
        says("9-(4-3)", 8);
        says("80/(4/2)", 40);
    }

    private static void cuts() {
        says("7/2", 3);
        says("-7/2", -3);
        says("7/-2", -3);
        says("-7/-2", 3);
        says("1/2", 0);
        says("-1/2", 0);
        says("8/2", 4);
        says("-8/2", -4);
    }

    private static void by0() {
        says("7/0", 0);
        says("-7/0", 0);
        says("0/0", 0);
        says("7/(3-3)+2", 2);
        says("9999*9999/0", 0);
    }

    private static void million() {
        says("(9999*100+99)-9999*100-50", 49);
        says("(9999*100+100)-9999*100-50", 50);
        says("(9999*100+101)-9999*100-50", 50);
        says("(0-9999*100-99)+9999*100+50", -49);
        says("(0-9999*100-100)+9999*100+50", -50);
        says("(0-9999*100-101)+9999*100+50", -50);
        says("1000*1000-9999*100-50", 50);
        says("7*(9999*100)-9999*100-50", 50);
        says("-7*(9999*100)+9999*100+50", -50);
        says("9999*9999*9999/9999-50", 50);
        says("9999*9999-9999*9999+7", 7);
        says("9999*9999*9999*9999*-1/9999", -99);
        says("-(9999*9999)/-9999-50", 50);
    }

    private static void bothSides() {
        asks("1 < 2 or 1 / 0 = 5", true);
        asks("2 < 1 and 1 / 0 = 0", false);
        says("if 1 < 2 then 3 else 1 / 0 end", 3);
        says("if 2 < 1 then 1 / 0 else 4 end", 4);
    }

    private static void firstFault() {
        Due.fault("bites since; x", 5, 6);
        Due.fault("bites 10000 x", 2, 6);
        Due.fault("x bites 10000;", 1, 0);
        Due.fault("hour 0; bites since;", 2, 5);
        Due.fault("bites 1; bites since;", 4, 9);
        Due.fault("bites (((((((((since;", 3, 14);
        Due.fault("bites ((((((((since(", 5, 14);
    }

    private static void placeOfFault() {
        Due.fault("  bogus", 1, 2);
        Due.fault("bites 1;\n\nbogus", 1, 10);
        Due.fault("bites   10000;", 2, 8);
        Due.fault("bite", 1, 4);
        Due.fault("bite   ", 1, 7);
        Due.fault("bite 0\n", 1, 7);
        Due.fault("bites 1; returns  ", 1, 18);
    }

    private static void leastFault() {
        Due.fault("bites 1 10000;", 1, 8);
        Due.fault("10000", 1, 0);
        Due.fault("walk 4 8;", 1, 7);
        Due.fault("bites since joy;", 5, 6);
        Due.fault("bites 1 since;", 1, 8);
        Due.fault("bites 1(;", 1, 7);
        Due.fault("bites ((((((((1(;", 1, 15);
        Due.fault("bites ((((((((not 1;", 1, 14);
        Due.fault("bites 1; bites bites", 4, 9);
        Due.fault("bites bites", 1, 6);
        Due.fault(ALL_BITES.substring(7) + "bites 1; bites 1;", 4, 170);
        Due.fault(ALL_BITES + "x", 1, 168);
        Due.fault(ALL_BITES + "10000", 1, 168);
    }

    private static void cannotStand() {
        Due.fault(";", 1, 0);
        Due.fault("(", 1, 0);
        Due.fault("1", 1, 0);
        Due.fault("depth;", 1, 0);
        Due.fault("cloves 1;", 1, 0);
        Due.fault("to 1;", 1, 0);
        Due.fault("behind 1;", 1, 0);
        Due.fault("bites 1;;", 1, 8);
        Due.fault("bites to;", 1, 6);
        Due.fault("bites then;", 1, 6);
        Due.fault("bites $;", 1, 6);
        Due.fault("bites 1 $", 1, 8);
        Due.fault("hour hour;", 1, 5);
        Due.fault("bites", 1, 5);
    }

    private static void wrongNumbers() {
        String[] least = {"bites 0;", "person 0 cloves 0;", "place 0 behind 0;", "bite 0;", "come 0;", "walk 0 to 0;", "hour 1;"};
        String[] most = {"bites 9999;", "person 7 cloves 99;", "place 7 behind 7;", "bite 4;", "come 4;", "walk 4 to 7;", "hour 60;"};
        for (int i = 0; i < least.length; i++) {
            good(least[i]);
            good(most[i]);
        }
        Due.fault("bites 10000;", 2, 6);
        Due.fault("bites 1+10000;", 2, 8);
        Due.fault("returns 10000;", 2, 8);
        Due.fault("person 8 cloves 0;", 2, 7);
        Due.fault("person 7 cloves 100;", 2, 16);
        Due.fault("place 8 behind 0;", 2, 6);
        Due.fault("place 7 behind 8;", 2, 15);
        Due.fault("bite 5;", 2, 5);
        Due.fault("come 5;", 2, 5);
        Due.fault("walk 5 to 0;", 2, 5);
        Due.fault("walk 4 to 8;", 2, 10);
        Due.fault("hour 0;", 2, 5);
        Due.fault("hour 61;", 2, 5);
        Due.fault("hour 10000;", 2, 5);
    }

    private static void theNinth() {
        String[] openers = {"(", "-", "behind ", "deep "};
        String[] closers = {")", "", "", ""};
        for (int i = 0; i < openers.length; i++) {
            String eight = "bites " + openers[i].repeat(8);
            good(eight + "1" + closers[i].repeat(8) + ";");
            good(eight + "1" + closers[i].repeat(8) + "+" + openers[i] + "1" + closers[i] + ";");
            Due.fault(eight + openers[i] + "1" + closers[i].repeat(9) + ";", 3, eight.length());
            Due.fault(eight + "(1)" + closers[i].repeat(8) + ";", 3, eight.length());
            Due.fault(eight + "-1" + closers[i].repeat(8) + ";", 3, eight.length());
            Due.fault(eight + "if 1<2 then 1 else 1 end" + closers[i].repeat(8) + ";", 3, eight.length());
        }
        good("bites ((((((((1-1-1))))))));");
        good("bites if " + "not ".repeat(7) + "1<2 then 1 else 1 end;");
        Due.fault("bites if " + "not ".repeat(8) + "1<2 then 1 else 1 end;", 3, 37);
        Due.fault("bites if " + "not ".repeat(7) + "-1<2 then 1 else 1 end;", 3, 37);
        Due.fault("bites if " + "not ".repeat(7) + "1<-2 then 1 else 1 end;", 3, 39);
        good("bites if " + "not ".repeat(7) + "1<2 and not 1<2 then -1 else -1 end;");
        String chosen = "if 1<2 then ".repeat(8);
        String ended = " else 1 end".repeat(8);
        good("bites " + chosen + "1" + ended + ";");
        Due.fault("bites " + chosen + "-1" + ended + ";", 3, 6 + chosen.length());
        Due.fault("bites " + chosen + "1 else -1", 3, 13 + chosen.length());
        good("bites " + chosen + "1 else 1 end else -1" + " end else 1".repeat(6) + " end;");
    }

    private static void secondLaw() {
        Due.fault("bites 1; bites 2;", 4, 9);
        Due.fault("returns 1;\n\nreturns 2;", 4, 12);
        Due.fault("bites 1; returns 2; hour 1; bites", 4, 28);
        Due.fault("bites 1; returns 2; hour 1; returns", 4, 28);
        good("bites 1; returns 2;");
    }

    private static void strangeName() {
        Due.fault("bites since;", 5, 6);
        Due.fault("bites 1 + (2 * since);", 5, 15);
        Due.fault("returns joy;", 5, 8);
        Due.fault("returns if 1 < joy then 1 else 2 end;", 5, 15);
        Due.fault("bites joy; returns joy;", 5, 19);
        Due.fault("returns since; bites since;", 5, 21);
        good("returns since; bites joy;");
    }

    private static void clause25() {
        good(ALL_BITES);
        Due.fault(ALL_BITES + "bite 0;", 6, 168);
        Due.fault(ALL_BITES + " \n bite", 6, 171);
        Due.fault(ALL_BITES + "returns", 6, 168);
        Due.fault(ALL_BITES.substring(7) + "bites 1; returns 2;", 6, 170);
        Due.fault(ALL_BITES + " ".repeat(132 - 7) + "hour 1;", 6, 293);
    }

    private static void ruling() {
        FarSide x = Make.one(9);
        Due.is("at first none", x.about(2), -1);
        Due.read(x, "bites 5; returns 6;");
        Due.is("reading it is no ruling", x.about(2), -1);
        Make.parts(x, 0, 0, 0, 0, 9, 0, 1, 2);
        x.by(0);
        Make.parts(x, 0, 0, 0, 0, 9, 0, 5, 6);
        x.by(-1);
        Make.parts(x, 0, 0, 0, 0, 9, 0, 1, 2);
    }

    private static void boundsOfBites() {
        says("98", 98);
        says("99", 99);
        says("100", 99);
        says("9999*9999", 99);
        says("-98", -98);
        says("-99", -99);
        says("-100", -99);
        says("-9999*9999", -99);
        Due.is("without a text", Make.one(9).of(0, 5), 1);
        Due.is("without the law", Make.ruled("returns 7;", 9).of(0, 5), 1);
    }

    private static void returnsBy(String sum, int want) {
        Due.is("returns " + sum, Make.ruled("returns " + sum + ";", 9).of(0, 6), want);
    }

    private static void boundsOfReturns() {
        returnsBy("0", 0);
        returnsBy("-1", 0);
        returnsBy("-9999*9999", 0);
        returnsBy("9", 9);
        returnsBy("10", 10);
        returnsBy("11", 10);
        returnsBy("9999*9999", 10);
        FarSide x = Make.one(8);
        FarSide y = Make.ruled("bites 7;", 8);
        for (int depth = 0; depth <= 8; depth++) {
            Due.is("without a text", x.of(0, 6), 2 + depth);
            Due.is("without the law", y.of(0, 6), 2 + depth);
            x.bite(0);
            y.bite(0);
        }
    }

    private static void played() {
        FarSide x = new FarSide();
        Due.read(x, "bites 0; bite 0; returns 10; bite 0;");
        x.person(0, 9);
        Due.is("its laws don't rule", x.played(0), -1);
        Due.is("bitten twice", x.of(0, 2), 2);
        Due.is("as by hand", x.about(3), 2);
        Due.is("none rules", x.about(2), -1);
        x.by(0);
        Due.is("one that rules does", x.played(0), 1);
        x.by(-1);
        Due.read(x, "come 0; come 0; walk 0 to 7; bite 0; hour 2; person 1 cloves 1; place 1 behind 1;");
        Due.is("each deed", x.played(1), -1);
        Due.is("six steps more", x.about(3), 8);
        FarSide y = new FarSide();
        Due.read(y, "");
        Due.is("no clauses", y.played(0), -1);
        Due.read(y, "bites 0;");
        Due.is("a law alone", y.played(1), -1);
        Due.is("no steps", y.about(3), 0);
    }

    private static void endedByEach() {
        String[] clauses = {"person 0 cloves 0;", "bite 0;", "bite 3;", "come 0;", "come 4;", "walk 1 to 7;", "walk 2 to 7;", "hour 2;"};
        for (String clause : clauses) {
            FarSide x = Make.row();
            x.person(0, 0);
            x.person(0, 1);
            x.bite(1);
            x.person(7, 1);
            if (clause.startsWith("person")) {
                Make.people(x, 2, 0, 0);
            }
            if (clause.startsWith("hour")) {
                x.come(1);
                Make.pass(x, 9998);
            }
            Due.read(x, "bites 1;" + clause + "hour 1; place 0 behind 7;");
            Due.is("played: " + clause, x.played(0), 1);
            Due.is("it ended there", x.place(7, 0), 7);
        }
    }

    private static void playedHours() {
        FarSide x = Make.one(9);
        Make.pass(x, 9990);
        Due.read(x, "hour 10; bite 0;");
        Due.read(x, "hour 9; bite 0;");
        Edges.refused(x, -1, () -> x.hour(10));
        Due.is("ten of nine", x.played(0), 0);
        Due.is("nine have passed", x.is(0), 9999);
        Due.is("each is a step", x.about(3), 30);
        Due.is("none more", x.played(0), 0);
        for (int i = 0; i < 9; i++) {
            x.undo();
        }
        Due.is("taken back", x.is(0), 9990);
        Due.is("nine of nine", x.played(1), -1);
        Due.is("bitten in the last hour", x.book(0, 0), 9999);
    }

    private static void numberOfClause() {
        FarSide x = Make.one(9);
        Due.read(x, "come 0;");
        Due.is("from 0", x.played(0), 0);
        Due.read(x, "bites 1; returns 10; place 1 behind 1; come 0;");
        Due.is("laws have numbers, too", x.played(1), 3);
        Due.read(x, "hour 1;".repeat(23) + "come 0;");
        Due.is("the last one", x.played(2), 23);
    }

    private static void whatWasDone() {
        FarSide x = new FarSide();
        Due.read(x, "person 3 cloves 4; place 5 behind 3; bite 0; hour 1; bite 1; hour 1;");
        Due.is("nobody of number 1", x.played(0), 4);
        Due.is("a person", x.about(0), 1);
        Due.is("a place behind", x.place(3, 0), 5);
        Due.is("a clove less", x.of(0, 3), 3);
        Due.is("an hour", x.is(0), 1);
        Due.is("two steps", x.about(3), 2);
        Due.is("a line", x.ledger(0), 1);
    }
}
