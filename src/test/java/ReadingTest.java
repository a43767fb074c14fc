// Promises 7 and 8: texts, and the faults that they have.
public final class ReadingTest {
    public static void main(String[] args) {
        text();
        faultCall();
        cannotStand();
        wrongNumbers();
        tooDeep();
        secondLaws();
        wrongNames();
        tooManyClauses();
        leastFault();
        goodTexts();
        Due.end();
    }

    // Promise 7.
    private static void text() {
        FarSide x = new FarSide();
        Due.is("an empty tape is a text", x.text(), 0);
        Due.is("a second", Due.read(x, "bites 2;"), 1);
        Due.is("the tape is empty then", x.about(8), 0);
        Due.is("one with a fault", Due.read(x, "bites ;"), -1);
        Due.is("the tape is empty of it, too", x.about(8), 0);
        Due.is("the fault is kept", x.fault(0), 1);
        Due.is("two texts", x.about(1), 2);
        Due.is("a third", Due.read(x, " \n "), 2);
        Due.is("a fourth", Due.read(x, "hour 60;"), 3);
        Due.is("a fifth", Due.read(x, "hour 60"), -1);
        Due.is("the tape stays", x.about(8), 7);
        Due.is("it wasn't read", x.fault(0), 0);
        Due.is("four", x.about(1), 4);
        Due.is("texts are no steps", x.about(3), 0);
        x.back();
        Due.is("without texts it can be read", x.text(), -1);
        Due.is("now it was", x.fault(1), 7);
    }

    // Promise 8.
    private static void faultCall() {
        FarSide x = new FarSide();
        Due.is("fault(0) ahead of any", x.fault(0), -1);
        Due.is("fault(1) ahead of any", x.fault(1), -1);
        Due.read(x, "bites 1; bogus");
        Due.is("fault(0)", x.fault(0), 1);
        Due.is("fault(1)", x.fault(1), 9);
        Due.is("fault(2)", x.fault(2), -1);
        Due.is("fault(-1)", x.fault(-1), -1);
        x.image();
        x.back();
        Due.is("fault(0) behind back", x.fault(0), 1);
        Due.read(x, "bites 1;");
        Due.is("fault(0) of a good one", x.fault(0), 0);
        Due.is("fault(1) of a good one", x.fault(1), -1);
        Due.is("fault(7) of a good one", x.fault(7), -1);
    }

    private static void cannotStand() {
        Due.fault("x", 1, 0);
        Due.fault("Bites 1;", 1, 0);
        Due.fault("biteS 1;", 1, 0);
        Due.fault("bitess 1;", 1, 0);
        for (char letter : new char[] {'a', 'z', 'A', 'Z'}) {
            Due.fault("bites" + letter + " 1;", 1, 0);
        }
        for (char sign : new char[] {'@', '[', '`', '{', '_', '.', ',', '\0', (char) 255}) {
            Due.fault("bites" + sign + " 1;", 1, 5);
        }
        Due.fault("bite", 1, 4);
        Due.fault("bite  \n ", 1, 8);
        Due.fault("bite 0", 1, 6);
        Due.fault("bite 0 ;;", 1, 8);
        Due.fault("bite -1;", 1, 5);
        Due.fault(";", 1, 0);
        Due.fault("5", 1, 0);
        Due.fault("bites\t1;", 1, 5);
        Due.fault("bites 1\r;", 1, 7);
        Due.fault("bites ();", 1, 7);
        Due.fault("bites (1;", 1, 8);
        Due.fault("bites 1);", 1, 7);
        Due.fault("bites 1 2;", 1, 8);
        Due.fault("bites 1 +;", 1, 9);
        Due.fault("bites *1;", 1, 6);
        Due.fault("bites not 1;", 1, 6);
        Due.fault("bites 1 = 1;", 1, 8);
        Due.fault("bites if 1 then 2 else 3 end;", 1, 11);
        Due.fault("bites if (1 < 2) then 2 else 3 end;", 1, 12);
        Due.fault("bites if 1 < 2 < 3 then 2 else 3 end;", 1, 15);
        Due.fault("bites if 1 =< 2 then 2 else 3 end;", 1, 12);
        Due.fault("bites if 1 < = 2 then 2 else 3 end;", 1, 13);
        Due.fault("bites if 1 < 2 else 3 end;", 1, 15);
        Due.fault("bites if 1 < 2 then 3 end;", 1, 22);
        Due.fault("bites if 1 < 2 then 3 else 4;", 1, 28);
        Due.fault("bites if 1 < 2 and then 3 else 4 end;", 1, 19);
        Due.fault("bites behind;", 1, 12);
        Due.fault("bites deep;", 1, 10);
        Due.fault("bites to;", 1, 6);
        Due.fault("bites 12ab;", 1, 8);
        Due.fault("person 0 cloves 1 cloves 2;", 1, 18);
        Due.fault("person 0 1;", 1, 9);
        Due.fault("person cloves 1;", 1, 7);
        Due.fault("place 0 to 1;", 1, 8);
        Due.fault("walk 0 1;", 1, 7);
        Due.fault("walk 0 behind 1;", 1, 7);
        Due.fault("hour depth;", 1, 5);
        Due.fault("end;", 1, 0);
        Due.fault("depth;", 1, 0);
        Due.fault("bites 1; @", 1, 9);
        Due.fault("bites 1 % 2;", 1, 8);
    }

    private static void wrongNumbers() {
        Due.fault("bites 9999;", 0, -1);
        Due.fault("bites 10000;", 2, 6);
        Due.fault("bites 00009999;", 0, -1);
        Due.fault("bites 99999999999999999999999999;", 2, 6);
        Due.fault("bites 4294967297;", 2, 6);
        Due.fault("person 7 cloves 99;", 0, -1);
        Due.fault("person 8 cloves 0;", 2, 7);
        Due.fault("person 7 cloves 100;", 2, 16);
        Due.fault("place 7 behind 7;", 0, -1);
        Due.fault("place 8 behind 0;", 2, 6);
        Due.fault("place 0 behind 8;", 2, 15);
        Due.fault("bite 4;", 0, -1);
        Due.fault("bite 5;", 2, 5);
        Due.fault("come 4;", 0, -1);
        Due.fault("come 5;", 2, 5);
        Due.fault("walk 4 to 7;", 0, -1);
        Due.fault("walk 5 to 0;", 2, 5);
        Due.fault("walk 0 to 8;", 2, 10);
        Due.fault("hour 1;", 0, -1);
        Due.fault("hour 60;", 0, -1);
        Due.fault("hour 0;", 2, 5);
        Due.fault("hour 61;", 2, 5);
        Due.fault("hour 10000;", 2, 5);
    }

    private static void tooDeep() {
        Due.fault("bites ((((((((1))))))));", 0, -1);
        Due.fault("bites (((((((((1)))))))));", 3, 14);
        Due.fault("bites --------1;", 0, -1);
        Due.fault("bites ---------1;", 3, 14);
        Due.fault("bites -(-(-(-(-1+1))));", 3, 14);
        Due.fault("bites 1-1-1-1-1-1-1-1-1-1-1;", 0, -1);
        Due.fault("bites behind behind behind behind behind behind behind behind 0;", 0, -1);
        Due.fault("bites behind behind behind behind behind behind behind behind behind 0;", 3, 62);
        Due.fault("returns deep deep deep deep deep deep deep deep (0);", 3, 48);
        Due.fault("bites if not not not not not not not 1 < 2 then 1 else 2 end;", 0, -1);
        Due.fault("bites if not not not not not not not not 1 < 2 then 1 else 2 end;", 3, 37);
        Due.fault("bites if not not not not not not not (1) < 2 then 1 else 2 end;", 3, 37);
        Due.fault("bites ((((((((1))))))))+((((((((1))))))));", 0, -1);
        Due.fault("bites ((((((((1)+(1))))))));", 0, -1);
        Due.fault("bites ((((((((1)+((1)))))))));", 3, 18);
        Due.fault("bites (((((((if 1 < 2 then 3 else 4 end)))))));", 0, -1);
        Due.fault("bites ((((((((if 1 < 2 then 3 else 4 end))))))));", 3, 14);
        Due.fault("bites (((((((if 1 < (2) then 3 else 4 end)))))));", 3, 20);
        Due.fault("bites (((((((if 1 < 2 then (3) else 4 end)))))));", 3, 27);
        Due.fault("bites (((((((if 1 < 2 then 3 else -4 end)))))));", 3, 34);
        Due.fault("bites (((((((if 1 < 2 then 3 else 4 end + (5))))))));", 0, -1);
    }

    private static void secondLaws() {
        Due.fault("bites 1; returns 2;", 0, -1);
        Due.fault("bites 1; returns 2; bites 3;", 4, 20);
        Due.fault("returns 1; returns 2;", 4, 11);
        Due.fault("returns 1; hour 1; returns x;", 4, 19);
    }

    private static void wrongNames() {
        Due.fault("returns since;", 0, -1);
        Due.fault("bites joy;", 0, -1);
        Due.fault("bites since;", 5, 6);
        Due.fault("returns 1 + joy;", 5, 12);
        Due.fault("bites hour+who+place+depth+cloves+with;", 0, -1);
        Due.fault("returns hour+who+place+depth+cloves+with;", 0, -1);
        Due.fault("returns since; bites since;", 5, 21);
        Due.fault("bites joy; returns if 1 < joy then 1 else 2 end;", 5, 26);
    }

    private static void tooManyClauses() {
        StringBuilder text = new StringBuilder();
        for (int i = 0; i < 24; i++) {
            text.append("bite 0;");
        }
        Due.fault(text.toString(), 0, -1);
        Due.fault(text + "bite 0;", 6, 168);
        Due.fault(text + " returns x", 6, 169);
        Due.fault(text + " x", 1, 169);
        Due.fault(text.toString().replaceFirst("bite 0;", "bites 0;") + "bites 1;", 4, 169);
        Due.fault(text.toString().replaceFirst("bite 0;", "bites 0;") + "bite 1;", 6, 169);
    }

    private static void leastFault() {
        Due.fault("person 10000 cloves 0;", 2, 7);
        Due.fault("person 0 10000;", 1, 9);
        Due.fault("bites 1 10000;", 1, 8);
        Due.fault("bites ((((((((since));", 5, 14);
        Due.fault("bites ((((((((*", 1, 14);
        Due.fault("bites 10000 since", 2, 6);
    }

    private static void goodTexts() {
        Due.fault("", 0, -1);
        Due.fault("bites1;returns2;", 0, -1);
        Due.fault("\nbites\n1\n;\n", 0, -1);
        Due.fault("person 0 cloves 0; place 0 behind 0; bite 0; come 0; walk 0 to 0; hour 1;", 0, -1);
        Due.fault("bites if 1<=2 and not 3>=4 or 5#6 then-1 else(2)end;", 0, -1);
        Due.fault("person 1 cloves 2; place 3 behind 4; bite 0; come 1; walk 2 to 3; hour 4;", 0, -1);
        StringBuilder longest = new StringBuilder("bites 1");
        while (longest.length() < 299) {
            longest.append(longest.length() % 2 == 1 ? '+' : '1');
        }
        Due.fault(longest.append(';').toString(), 0, -1);
    }
}
