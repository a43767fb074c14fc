// Promises 23 to 30: places behind places, rings, meetings, and the game.
public final class LandTest {
    public static void main(String[] args) {
        after();
        ring();
        rings();
        left();
        into();
        meet();
        game();
        Due.end();
    }

    private static FarSide land(int... behind) {
        FarSide x = new FarSide();
        for (int place = 0; place < behind.length; place++) {
            x.behind(place, behind[place]);
        }
        return x;
    }

    // Promise 23.
    private static void after() {
        FarSide x = land(1, 2, 3, 4, 5, 3, 7, 6);
        Due.is("after(0, 0)", x.after(0, 0), 0);
        Due.is("after(0, 1)", x.after(0, 1), 1);
        Due.is("after(0, 5)", x.after(0, 5), 5);
        Due.is("after(0, 6)", x.after(0, 6), 3);
        Due.is("after(0, 9)", x.after(0, 9), 3);
        Due.is("after(0, 1000)", x.after(0, 1000), 3 + (1000 - 3) % 3);
        Due.is("after(0, 1000000)", x.after(0, 1000000), 3 + (1000000 - 3) % 3);
        Due.is("after(6, 999999)", x.after(6, 999999), 7);
        Due.is("after(0, 1000001)", x.after(0, 1000001), -1);
        Due.is("after(0, -1)", x.after(0, -1), -1);
        Due.is("after(8, 0)", x.after(8, 0), -1);
        Due.is("after(-1, 0)", x.after(-1, 0), -1);
        for (int length = 1; length <= 8; length++) {
            FarSide y = new FarSide();
            for (int place = 0; place < length; place++) {
                y.behind(place, (place + 1) % length);
            }
            Due.is("a ring of " + length, y.after(0, 999983), 999983 % length);
            Due.is("a ring of " + length, y.after(0, 849), 849 % length);
        }
    }

    // Promise 24.
    private static void ring() {
        FarSide x = land(1, 2, 3, 4, 5, 3, 7, 6);
        int[] sizes = {3, 3, 3, 3, 3, 3, 2, 2};
        int[] ways = {3, 2, 1, 0, 0, 0, 0, 0};
        for (int place = 0; place < 8; place++) {
            Due.is("ring(" + place + ", false)", x.ring(place, false), sizes[place]);
            Due.is("ring(" + place + ", true)", x.ring(place, true), ways[place]);
        }
        Due.is("ring(8, true)", x.ring(8, true), -1);
        Due.is("ring(-1, false)", x.ring(-1, false), -1);
        FarSide y = land(1, 2, 3, 4, 5, 6, 7, 7);
        Due.is("seven ahead", y.ring(0, true), 7);
        Due.is("a ring of one", y.ring(0, false), 1);
        FarSide z = land(1, 2, 3, 4, 5, 6, 7, 0);
        Due.is("a ring of eight", z.ring(5, false), 8);
        Due.is("in it at once", z.ring(5, true), 0);
    }

    // Promise 25.
    private static void rings() {
        Due.is("eight", new FarSide().rings(), 8);
        Due.is("two", land(1, 2, 3, 4, 5, 3, 7, 6).rings(), 2);
        Due.is("one of all", land(1, 2, 3, 4, 5, 6, 7, 0).rings(), 1);
        Due.is("one of one", land(1, 2, 3, 4, 5, 6, 7, 7).rings(), 1);
        Due.is("four", land(1, 0, 3, 2, 5, 4, 7, 6).rings(), 4);
        Due.is("three", land(2, 2, 2, 4, 4, 6, 5, 5).rings(), 3);
    }

    // Promise 26.
    private static void left() {
        FarSide x = land(1, 2, 3, 4, 5, 3, 7, 6);
        int[] want = {255, 254, 252, 248, 248, 248, 248, 248, 248};
        for (int n = 0; n <= 8; n++) {
            Due.is("left(" + n + ")", x.left(n), want[n]);
        }
        Due.is("left(9)", x.left(9), -1);
        Due.is("left(-1)", x.left(-1), -1);
    }

    // Promise 27.
    private static void into() {
        FarSide x = land(1, 2, 3, 4, 5, 3, 7, 6);
        int[] want = {0, 1, 2, 4 + 32, 8, 16, 128, 64};
        for (int place = 0; place < 8; place++) {
            Due.is("into(" + place + ")", x.into(place), want[place]);
        }
        Due.is("into(8)", x.into(8), -1);
        Due.is("into(-1)", x.into(-1), -1);
        Due.is("all into one", land(4, 4, 4, 4, 4, 4, 4, 4).into(4), 255);
    }

    private static void meets(FarSide x, int a, int b, int both, int first, int second) {
        Due.is("meet(" + a + ", " + b + ", 0)", x.meet(a, b, 0), both);
        Due.is("meet(" + a + ", " + b + ", 1)", x.meet(a, b, 1), first);
        Due.is("meet(" + a + ", " + b + ", 2)", x.meet(a, b, 2), second);
    }

    // Promise 28.
    private static void meet() {
        FarSide x = land(1, 2, 3, 4, 5, 3, 7, 6);
        meets(x, 0, 0, 0, 0, 0);
        meets(x, 0, 5, 4, 3, 1);
        meets(x, 5, 0, 4, 1, 3);
        meets(x, 2, 5, 2, 1, 1);
        meets(x, 0, 6, -1, -1, -1);
        meets(x, 6, 7, 1, 0, 1);
        FarSide ring = land(1, 2, 3, 0, 5, 6, 7, 4);
        meets(ring, 0, 2, 2, 0, 2);
        meets(ring, 2, 0, 2, 0, 2);
        meets(ring, 1, 0, 1, 0, 1);
        FarSide fork = land(2, 3, 7, 4, 7, 5, 6, 7);
        meets(fork, 0, 1, 5, 2, 3);
        meets(fork, 1, 0, 5, 3, 2);
        FarSide whole = land(1, 2, 3, 4, 5, 6, 7, 0);
        meets(whole, 0, 7, 1, 0, 1);
        meets(whole, 0, 4, 4, 0, 4);
        meets(land(1, 2, 3, 4, 5, 6, 7, 7), 0, 7, 7, 7, 0);
        Due.is("meet(0, 0, 3)", x.meet(0, 0, 3), -1);
        Due.is("meet(0, 0, -1)", x.meet(0, 0, -1), -1);
        Due.is("meet(8, 0, 0)", x.meet(8, 0, 0), -1);
        Due.is("meet(0, 8, 0)", x.meet(0, 8, 0), -1);
        Due.is("meet(-1, 0, 0)", x.meet(-1, 0, 0), -1);
    }

    private static void plays(FarSide x, int place, int game, int move) {
        Due.is("game(" + place + ")", x.game(place), game);
        Due.is("move(" + place + ")", x.move(place), move);
    }

    // Promises 29 and 30.
    private static void game() {
        FarSide row = land(0, 0, 1, 2, 3, 4, 5, 6);
        plays(row, 0, 1, 1);
        plays(row, 1, 1, 1);
        plays(row, 2, 1, 2);
        plays(row, 3, 0, -1);
        plays(row, 4, 1, 1);
        plays(row, 5, 1, 2);
        plays(row, 6, 0, -1);
        plays(row, 7, 1, 1);
        FarSide away = land(1, 1, 0, 2, 5, 4, 7, 6);
        plays(away, 0, 2, -1);
        plays(away, 1, 2, -1);
        plays(away, 2, 1, 1);
        plays(away, 3, 1, 2);
        plays(away, 4, 2, -1);
        FarSide through = land(3, 3, 2, 4, 5, 5, 0, 6);
        plays(through, 6, 1, 1);
        plays(through, 7, 1, 2);
        plays(through, 0, 2, -1);
        FarSide two = land(1, 0, 0, 0, 0, 0, 0, 0);
        plays(two, 0, 1, 2);
        plays(two, 1, 1, 1);
        FarSide three = land(1, 2, 0, 3, 3, 3, 3, 3);
        plays(three, 2, 1, 1);
        plays(three, 1, 1, 2);
        plays(three, 0, 0, -1);
        // From 1 on both moves lead to where the other one wins; from 0 it goes on for ever.
        FarSide first = land(5, 3, 0, 2, 3, 6, 6, 1);
        plays(first, 3, 1, 2);
        plays(first, 1, 0, -1);
        plays(first, 7, 1, 1);
        plays(first, 0, 2, -1);
        // From 0, too, it goes on: away from there, for ever.
        FarSide either = land(1, 2, 3, 3, 0, 4, 5, 6);
        plays(either, 4, 1, 1);
        plays(either, 5, 1, 2);
        plays(either, 6, 0, -1);
        plays(either, 7, 1, 1);
        plays(either, 0, 2, -1);
        Due.is("game(8)", row.game(8), -1);
        Due.is("game(-1)", row.game(-1), -1);
        Due.is("move(8)", row.move(8), -1);
        Due.is("move(-1)", row.move(-1), -1);
    }
}
