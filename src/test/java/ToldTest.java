// Promises 1 to 6: a new object, what is told of places and people, and the tape.
public final class ToldTest {
    public static void main(String[] args) {
        newObject();
        person();
        behind();
        joy();
        feed();
        end();
        Due.end();
    }

    // Promise 1.
    private static void newObject() {
        FarSide x = new FarSide();
        int[] about = {0, 0, -1, 0, 0, 0, 0, 0, 0};
        for (int what = 0; what < about.length; what++) {
            Due.is("new: about(" + what + ")", x.about(what), about[what]);
        }
        for (int place = 0; place < 8; place++) {
            Due.is("new: place(" + place + ", 0)", x.place(place, 0), place);
            Due.is("new: place(" + place + ", 1)", x.place(place, 1), 0);
            Due.is("new: place(" + place + ", 2)", x.place(place, 2), 0);
        }
        Due.is("new: hour", x.is(0), 0);
        Due.is("new: X", x.is(1), 383);
        Due.is("new: book", x.book(-1, 0), 0);
        Due.is("new: fault(0)", x.fault(0), -1);
        Due.is("new: fault(1)", x.fault(1), -1);
        x.behind(0, 1);
        x.joy(3, 4);
        x.person(0, 5);
        x.bite(0);
        x.hour(2);
        x.entry(3);
        Due.is("back to what was new", x.back(), 0);
        Due.is("back: nobody", x.about(0), 0);
        Due.is("back: steps", x.about(3), 0);
        Due.is("back: place 0", x.place(0, 0), 0);
        Due.is("back: joy", x.place(3, 1), 0);
        Due.is("back: X", x.is(1), 383);
        Due.is("NONE", FarSide.NONE, -1);
    }

    // Promise 2.
    private static void person() {
        FarSide x = new FarSide();
        Due.is("person of no place", x.person(-1, 0), -1);
        Due.is("person beyond the places", x.person(8, 0), -1);
        Due.is("person of cloves below 0", x.person(0, -1), -1);
        Due.is("person of 100 cloves", x.person(0, 100), -1);
        Due.is("person far away", x.person(Integer.MIN_VALUE, Integer.MAX_VALUE), -1);
        Due.is("nobody yet", x.about(0), 0);
        Due.is("person 0", x.person(0, 0), 0);
        Due.is("person 1", x.person(7, 99), 1);
        Due.is("person 2", x.person(3, 50), 2);
        Due.is("person 3", x.person(3, 50), 3);
        Due.is("person 4", x.person(3, 50), 4);
        Due.is("a sixth", x.person(3, 50), -1);
        Due.is("five", x.about(0), 5);
        int[] want = {7, 7, 0, 99, 0};
        for (int what = 0; what < want.length; what++) {
            Due.is("person 1: of " + what, x.of(1, what), want[what]);
        }
        Due.is("telling people is no step", x.about(3), 0);
        x.undo();
        Due.is("still five", x.about(0), 5);
    }

    // Promise 3.
    private static void behind() {
        FarSide x = new FarSide();
        Due.yes("behind(0, 7)", x.behind(0, 7));
        Due.yes("behind(7, 0)", x.behind(7, 0));
        Due.is("7 is behind 0", x.place(0, 0), 7);
        Due.is("0 is behind 7", x.place(7, 0), 0);
        Due.no("behind(-1, 0)", x.behind(-1, 0));
        Due.no("behind(8, 0)", x.behind(8, 0));
        Due.no("behind(0, -1)", x.behind(0, -1));
        Due.no("behind(0, 8)", x.behind(0, 8));
        Due.no("behind far", x.behind(Integer.MAX_VALUE, Integer.MIN_VALUE));
        Due.is("7 still is behind 0", x.place(0, 0), 7);
        x.person(0, 1);
        x.bite(0);
        Due.is("a person is where the base's behind is", x.of(0, 0), 7);
        x.behind(0, 5);
        Due.is("its place is another, as behind is", x.of(0, 0), 5);
        Due.is("telling is no step", x.about(3), 1);
        x.undo();
        Due.is("what is told isn't taken back", x.place(0, 0), 5);
    }

    // Promise 4.
    private static void joy() {
        FarSide x = new FarSide();
        Due.yes("joy(0, 9)", x.joy(0, 9));
        Due.yes("joy(7, -9)", x.joy(7, -9));
        Due.no("joy(0, 10)", x.joy(0, 10));
        Due.no("joy(0, -10)", x.joy(0, -10));
        Due.no("joy(8, 0)", x.joy(8, 0));
        Due.no("joy(-1, 0)", x.joy(-1, 0));
        Due.is("joy of 0", x.place(0, 1), 9);
        Due.is("joy of 7", x.place(7, 1), -9);
        Due.is("telling is no step", x.about(3), 0);
    }

    // Promise 5.
    private static void feed() {
        FarSide x = new FarSide();
        int bite = Due.word("bite", 0);
        Due.is("feed", x.feed(bite, Due.word(" 0; ", 0), Due.word("    ", 0), Due.word("    ", 0), Due.word("    ", 0)), 20);
        Due.is("the bytes come in their order", x.text(), 0);
        for (int bytes = 20; bytes <= 300; bytes += 20) {
            Due.is("feed to " + bytes, x.feed(-1, 0, 1, 2, 3), bytes);
        }
        Due.is("feed beyond 300", x.feed(0, 0, 0, 0, 0), -1);
        Due.is("none have come", x.about(8), 300);
        Due.is("end(281)", x.end(281), 281);
        Due.is("feed beyond 300 by one", x.feed(0, 0, 0, 0, 0), -1);
        Due.is("as it was", x.about(8), 281);
        x.end(280);
        Due.is("feed to just 300", x.feed(0, 0, 0, 0, 0), 300);
        x.end(0);
        String blanks = "          ";
        Due.tape(x, blanks + blanks + "hour " + "\u00ff");
        x.text();
        Due.is("a high byte is no token", x.fault(0), 1);
        Due.is("its place", x.fault(1), 25);
    }

    // Promise 6.
    private static void end() {
        FarSide x = new FarSide();
        Due.is("end(0) of nothing", x.end(0), 0);
        Due.is("end(1) of nothing", x.end(1), -1);
        Due.is("end(-1)", x.end(-1), -1);
        x.feed(Due.word("hour", 0), Due.word(" 1;x", 0), 0, 0, 0);
        Due.is("end(21) of 20", x.end(21), -1);
        Due.is("nothing is done", x.about(8), 20);
        Due.is("end(-5)", x.end(-5), -1);
        Due.is("end(MAX)", x.end(Integer.MAX_VALUE), -1);
        Due.is("end(20)", x.end(20), 20);
        Due.is("end(7)", x.end(7), 7);
        Due.is("bytes", x.about(8), 7);
        Due.is("the first alone", x.text(), 0);
        Due.is("it is empty then", x.about(8), 0);
    }
}
