// Promises 49 and 50: the image, and going back to it.
public final class ImageTest {
    public static void main(String[] args) {
        imageAndBack();
        tapeAndFault();
        steps();
        texts();
        entriesAndSaid();
        stays();
        Due.end();
    }

    private static void imageAndBack() {
        FarSide x = new FarSide();
        x.behind(0, 3);
        x.joy(3, 6);
        x.person(0, 7);
        x.bite(0);
        x.hour(2);
        x.miss(3, 4);
        x.meeting(7, 8);
        x.entry(2);
        x.said(0, 2);
        Due.read(x, "bites 4;");
        x.by(0);
        int luck = x.is(1);
        Due.is("image: the hour", x.image(), 2);
        int depth = x.of(0, 2);
        int lines = x.book(-1, 0);
        int steps = x.about(3);
        x.behind(0, 4);
        x.joy(3, 1);
        x.person(1, 1);
        x.bite(0);
        x.walk(1, 5);
        x.hour(9);
        x.miss(-1, 0);
        x.meeting(9, 9);
        x.entry(6);
        x.said(0, 9);
        Due.read(x, "bites 5;");
        x.by(1);
        Due.is("hour 11", x.is(0), 11);
        Due.is("back: the hour", x.back(), 2);
        Due.is("hour 2", x.is(0), 2);
        Due.is("X", x.is(1), luck);
        Due.is("behind", x.place(0, 0), 3);
        Due.is("joy", x.place(3, 1), 6);
        Due.is("people", x.about(0), 1);
        Due.is("depth", x.of(0, 2), depth);
        Due.is("lines", x.book(-1, 0), lines);
        Due.is("steps", x.about(3), steps);
        Due.is("texts", x.about(1), 1);
        Due.is("the text", x.about(2), 0);
        Due.is("bites", x.of(0, 5), 4);
        Due.is("doings", x.about(4), 1);
        Due.is("meetings", x.about(5), 1);
        Due.is("a plan of them", x.plan(2, 0), 3);
        Due.is("need of them", x.need(1), 7);
        Due.is("entries", x.about(6), 1);
        Due.is("said", x.about(7), 1);
        Due.is("whose", x.whose(), x.of(0, 6) == 2 ? 1 : 0);
        Due.is("a next person", x.person(1, 1), 1);
    }

    private static void tapeAndFault() {
        FarSide x = new FarSide();
        x.feed(0, 0, 0, 0, 0);
        x.image();
        x.end(0);
        Due.read(x, "bites 1; x");
        Due.tape(x, "hour");
        x.back();
        Due.is("the tape is as it was", x.about(8), 4);
        Due.is("the latest fault is as it was", x.fault(0), 1);
        Due.is("its place, too", x.fault(1), 9);
        Due.is("it can be read", x.text(), -1);
        Due.is("its bytes are as they were", x.fault(1), 4);
    }

    private static void steps() {
        FarSide x = new FarSide();
        x.person(2, 9);
        x.bite(0);
        x.buy(0, 20);
        x.image();
        Due.is("undo", x.undo(), 1);
        Due.is("undo", x.undo(), 0);
        x.hour(40);
        Due.is("back", x.back(), 0);
        Due.is("two steps", x.about(3), 2);
        Due.is("cloves", x.of(0, 3), 28);
        Due.is("undo of the image's step", x.undo(), 1);
        Due.is("cloves then", x.of(0, 3), 8);
        Due.is("undo", x.undo(), 0);
        Due.is("depth then", x.of(0, 2), 0);
        Due.is("undo", x.undo(), -1);
    }

    private static void texts() {
        FarSide x = new FarSide();
        x.person(0, 9);
        Due.is("a text", Due.read(x, "bites 3;"), 0);
        x.image();
        Due.is("another", Due.read(x, "bites 7;"), 1);
        x.by(1);
        x.back();
        Due.no("there is none such", x.by(1));
        Due.is("played of it", x.played(1), -2);
        Due.is("the next one has its number", Due.read(x, "bites 8; walk 0 to 5;"), 1);
        x.by(1);
        Due.is("bites by it", x.of(0, 5), 8);
        x.back();
        Due.is("the image's text", x.about(1), 1);
    }

    private static void entriesAndSaid() {
        FarSide x = new FarSide();
        x.person(0, 9);
        x.person(0, 9);
        Due.read(x, "returns 4;");
        Due.read(x, "returns who * 3;");
        x.entry(1);
        x.entry(3);
        x.said(0, 0);
        x.meeting(7, 7);
        x.miss(6, 6);
        x.image();
        x.entry(-1);
        x.entry(5);
        x.entry(5);
        x.said(-1, 0);
        x.said(1, 4);
        x.meeting(-1, 0);
        x.meeting(6, 6);
        x.miss(-1, 0);
        x.miss(20, 20);
        Due.is("the law of others", x.law(9), 5);
        Due.is("said of others", x.whose(), 1);
        Due.is("plan of others", x.plan(24, 0), 7);
        x.back();
        Due.is("the law", x.law(9), 2);
        Due.is("said", x.whose(), 2);
        Due.is("need", x.need(1), 7);
        Due.is("plan", x.plan(5, 0), 2);
    }

    private static void stays() {
        FarSide x = new FarSide();
        x.person(0, 9);
        x.hour(5);
        x.image();
        for (int i = 0; i < 3; i++) {
            x.hour(7);
            x.bite(0);
            Due.is("the image stays", x.back(), 5);
            Due.is("depth", x.of(0, 2), 0);
            Due.is("lines", x.book(-1, 0), 0);
        }
        x.hour(1);
        Due.is("a new image", x.image(), 6);
        x.hour(1);
        Due.is("back to the new one", x.back(), 6);
        FarSide y = new FarSide();
        Due.is("another object's image is its own", y.back(), 0);
    }
}
