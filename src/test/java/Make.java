// Objects that tests begin with.
final class Make {
    private Make() {
    }

    static FarSide land(int... behind) {
        FarSide x = new FarSide();
        for (int place = 0; place < behind.length; place++) {
            x.behind(place, behind[place]);
        }
        return x;
    }

    static FarSide row() {
        return land(1, 2, 3, 4, 5, 6, 7, 7);
    }

    static FarSide ring() {
        return land(1, 2, 3, 4, 5, 6, 7, 0);
    }

    // A row with one person in its first place.
    static FarSide one(int cloves) {
        FarSide x = row();
        x.person(0, cloves);
        return x;
    }

    // The same under a law.
    static FarSide ruled(String text, int cloves) {
        FarSide x = one(cloves);
        rule(x, text);
        return x;
    }

    static void rule(FarSide x, String text) {
        Due.yes("by(" + text + ")", x.by(Due.read(x, text)));
    }

    static void people(FarSide x, int many, int place, int cloves) {
        for (int i = 0; i < many; i++) {
            x.person(place, cloves);
        }
    }

    static void bites(FarSide x, int person, int times) {
        for (int i = 0; i < times; i++) {
            x.bite(person);
        }
    }

    static void comes(FarSide x, int person, int times) {
        for (int i = 0; i < times; i++) {
            x.come(person);
        }
    }

    // Nobody may be away, or the law must be without returns.
    static void pass(FarSide x, int hours) {
        for (int left = hours; left > 0; left -= 60) {
            x.hour(Math.min(60, left));
        }
    }

    // X behind a draw.
    static int next(int x) {
        return (x * 641 + 499) % 30893;
    }

    static void parts(FarSide x, int person, int... want) {
        for (int what = 0; what < want.length; what++) {
            Due.is("of(" + person + ", " + what + ")", x.of(person, what), want[what]);
        }
    }

    static void line(FarSide x, int i, int... want) {
        for (int what = 0; what < want.length; what++) {
            Due.is("book(" + i + ", " + what + ")", x.book(i, what), want[what]);
        }
    }
}
