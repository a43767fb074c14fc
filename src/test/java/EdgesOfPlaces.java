// Promises 23 to 30: places behind places, meetings, and the game.
final class EdgesOfPlaces {
    private static final int LEAST = Integer.MIN_VALUE;
    private static final int MOST = Integer.MAX_VALUE;

    private EdgesOfPlaces() {
    }

    static void run() {
        Edges.promise(23, "The PLACE n times BEHIND.", EdgesOfPlaces::after);
        Edges.promise(23, "NONE for others (n 0 .. 1000000).", EdgesOfPlaces::notAfter);
        Edges.promise(24, "A RING: how many PLACES it has (ahead false), how many times BEHIND it is come to (ahead true).", EdgesOfPlaces::ring);
        Edges.promise(24, "NONE for others.", EdgesOfPlaces::noRing);
        Edges.promise(25, "RINGS: how many.", EdgesOfPlaces::rings);
        Edges.promise(26, "LEFT: PLACES (bits).", EdgesOfPlaces::left);
        Edges.promise(26, "NONE for others (0 .. 8).", EdgesOfPlaces::notLeft);
        Edges.promise(27, "INTO: PLACES (bits).", EdgesOfPlaces::into);
        Edges.promise(27, "NONE for others.", EdgesOfPlaces::notInto);
        Edges.promise(28, "A MEETING: how many bites together (i 0), of the first (i 1), of the second (i 2).", EdgesOfPlaces::meet);
        Edges.promise(28, "NONE: never, and for others (PLACES).", EdgesOfPlaces::noMeeting);
        Edges.promise(29, "A GAME: 1 the one who begins wins, 0 the other one, 2 nobody.", EdgesOfPlaces::game);
        Edges.promise(29, "NONE for others.", EdgesOfPlaces::noGame);
        Edges.promise(30, "A MOVE: 1 or 2 times BEHIND.", EdgesOfPlaces::move);
        Edges.promise(30, "NONE: none wins, and for others.", EdgesOfPlaces::noMove);
    }

    private static void after() {
        FarSide x = Make.ring();
        Due.is("0 times", x.after(7, 0), 7);
        Due.is("once, round the end", x.after(7, 1), 0);
        Due.is("a million times", x.after(7, 1000000), 7);
        Due.is("one less", x.after(7, 999999), 6);
        FarSide y = Make.row();
        Due.is("seven", y.after(0, 7), 7);
        Due.is("eight", y.after(0, 8), 7);
        Due.is("a million", y.after(0, 1000000), 7);
        for (int length = 1; length <= 8; length++) {
            FarSide z = Make.row();
            z.behind(7, 8 - length);
            int ahead = 8 - length;
            for (int n = 840; n < 860; n++) {
                Due.is("round a ring of " + length, z.after(0, n), ahead + (n - ahead) % length);
            }
            Due.is("round a ring of " + length, z.after(0, 1000000), ahead + (1000000 - ahead) % length);
        }
    }

    private static void notAfter() {
        FarSide x = Make.ring();
        Edges.refused(x, -1, () -> x.after(0, -1), () -> x.after(0, 1000001), () -> x.after(-1, 0), () -> x.after(8, 0),
            () -> x.after(0, MOST), () -> x.after(0, LEAST), () -> x.after(MOST, 0), () -> x.after(LEAST, 0));
    }

    private static void ring() {
        FarSide x = new FarSide();
        Due.is("itself", x.ring(7, false), 1);
        Due.is("in it at once", x.ring(7, true), 0);
        FarSide y = Make.row();
        y.behind(7, 6);
        Due.is("of two", y.ring(0, false), 2);
        Due.is("six times", y.ring(0, true), 6);
        Due.is("in it", y.ring(6, true), 0);
        Due.is("just ahead of it", y.ring(5, true), 1);
    }

    private static void noRing() {
        FarSide x = Make.ring();
        Edges.refused(x, -1, () -> x.ring(-1, false), () -> x.ring(8, false), () -> x.ring(-1, true), () -> x.ring(8, true),
            () -> x.ring(MOST, true), () -> x.ring(LEAST, false));
    }

    private static void rings() {
        Due.is("the most", new FarSide().rings(), 8);
        Due.is("the fewest", Make.row().rings(), 1);
        Due.is("the fewest of all places", Make.ring().rings(), 1);
        for (int last = 0; last <= 7; last++) {
            FarSide x = Make.row();
            x.behind(7, last);
            Due.is("one", x.rings(), 1);
            x.behind(0, 0);
            Due.is("two, but where it is the same", x.rings(), last == 0 ? 1 : 2);
        }
    }

    private static void left() {
        FarSide x = Make.row();
        Due.is("0 times: all", x.left(0), 255);
        Due.is("once", x.left(1), 254);
        Due.is("seven times", x.left(7), 128);
        Due.is("eight times", x.left(8), 128);
    }

    private static void notLeft() {
        FarSide x = Make.row();
        Edges.refused(x, -1, () -> x.left(-1), () -> x.left(9), () -> x.left(MOST), () -> x.left(LEAST));
    }

    private static void into() {
        FarSide x = Make.ring();
        Due.is("into the first", x.into(0), 128);
        Due.is("into the last", x.into(7), 64);
        x.behind(7, 7);
        Due.is("into none", x.into(0), 0);
        Due.is("into it from itself, too", x.into(7), 192);
    }

    private static void notInto() {
        FarSide x = Make.ring();
        Edges.refused(x, -1, () -> x.into(-1), () -> x.into(8), () -> x.into(MOST), () -> x.into(LEAST));
    }

    private static void meet() {
        FarSide x = Make.row();
        int[] same = {0, 0, 0};
        int[] ends = {7, 7, 0};
        for (int i = 0; i <= 2; i++) {
            Due.is("one place", x.meet(7, 7, i), same[i]);
            Due.is("the first and the last", x.meet(0, 7, i), ends[i]);
        }
    }

    private static void noMeeting() {
        FarSide x = new FarSide();
        Edges.refused(x, -1, () -> x.meet(0, 7, 0), () -> x.meet(0, 7, 1), () -> x.meet(0, 7, 2), () -> x.meet(0, 0, -1),
            () -> x.meet(0, 0, 3), () -> x.meet(-1, -1, 0), () -> x.meet(8, 8, 0), () -> x.meet(0, 8, 0), () -> x.meet(-1, 0, 0),
            () -> x.meet(0, -1, 1), () -> x.meet(8, 0, 2), () -> x.meet(MOST, MOST, 0), () -> x.meet(0, 0, LEAST));
    }

    private static void game() {
        FarSide x = Make.land(0, 0, 1, 2, 4, 4, 6, 6);
        Due.is("the first wins in the first place", x.game(0), 1);
        Due.is("the first wins", x.game(2), 1);
        Due.is("the other one wins", x.game(3), 0);
        Due.is("nobody wins", x.game(4), 2);
        Due.is("nobody wins in the last place", x.game(7), 2);
    }

    private static void noGame() {
        FarSide x = Make.ring();
        Edges.refused(x, -1, () -> x.game(-1), () -> x.game(8), () -> x.game(MOST), () -> x.game(LEAST));
    }

    private static void move() {
        FarSide x = Make.land(0, 0, 1, 2, 3, 4, 5, 6);
        Due.is("both win", x.move(1), 1);
        Due.is("two times", x.move(2), 2);
        Due.is("once", x.move(4), 1);
        Due.is("in the last place", x.move(7), 1);
    }

    private static void noMove() {
        FarSide x = Make.land(0, 0, 1, 2, 4, 5, 6, 7);
        Edges.refused(x, -1, () -> x.move(3), () -> x.move(4), () -> x.move(-1), () -> x.move(8), () -> x.move(MOST), () -> x.move(LEAST));
    }
}
