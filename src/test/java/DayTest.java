// Promises 31 to 34: doings to be missed, meetings to be had, plans, and how long a bite must last.
public final class DayTest {
    public static void main(String[] args) {
        miss();
        meeting();
        plan();
        earliest();
        meetings();
        need();
        Due.end();
    }

    // Promise 31.
    private static void miss() {
        FarSide x = new FarSide();
        Due.is("miss(-1, 5) of none", x.miss(-1, 5), 0);
        Due.is("miss(-2, 5)", x.miss(-2, 5), -2);
        Due.is("miss(5, 4)", x.miss(5, 4), -2);
        Due.is("miss(0, 24)", x.miss(0, 24), -2);
        Due.is("miss(24, 24)", x.miss(24, 24), -2);
        Due.is("miss(0, -1)", x.miss(0, -1), -2);
        Due.is("miss(MAX, MAX)", x.miss(Integer.MAX_VALUE, Integer.MAX_VALUE), -2);
        Due.is("none", x.about(4), 0);
        Due.is("miss(23, 23)", x.miss(23, 23), 1);
        Due.is("miss(0, 0)", x.miss(0, 0), 2);
        Due.is("miss(0, 23)", x.miss(0, 23), 3);
        Due.is("miss(0, 0) again", x.miss(0, 0), 4);
        Due.is("a fifth", x.miss(1, 2), 5);
        Due.is("a sixth", x.miss(1, 2), 6);
        Due.is("a seventh", x.miss(1, 2), -2);
        Due.is("six", x.about(4), 6);
        Due.is("a whole day takes 24 bites of one hour", x.plan(1, -1), 24);
        Due.is("miss(-1, -1)", x.miss(-1, -1), 0);
        Due.is("none any more", x.about(4), 0);
        Due.is("no bites", x.plan(1, -1), 0);
        Due.is("no steps", x.about(3), 0);
    }

    // Promise 32.
    private static void meeting() {
        FarSide x = new FarSide();
        Due.is("meeting(5, 4)", x.meeting(5, 4), -2);
        Due.is("meeting(0, 24)", x.meeting(0, 24), -2);
        Due.is("meeting(-2, 0)", x.meeting(-2, 0), -2);
        Due.is("meeting(24, 24)", x.meeting(24, 24), -2);
        for (int i = 1; i <= 6; i++) {
            Due.is("meeting " + i, x.meeting(0, 23), i);
        }
        Due.is("a seventh", x.meeting(0, 23), -2);
        Due.is("without doings no bites, though all are meetings", x.plan(4, -1), 0);
        Due.is("doings are others", x.miss(3, 3), 1);
        Due.is("no way", x.plan(1, -1), -2);
        Due.is("meeting(-1, 77)", x.meeting(-1, 77), 0);
        Due.is("none any more", x.about(5), 0);
        Due.is("a doing is there yet", x.about(4), 1);
        Due.is("now there is a way", x.plan(1, -1), 1);
    }

    private static void plans(FarSide x, int hours, int... bites) {
        Due.is("plan(" + hours + ", -1)", x.plan(hours, -1), bites.length);
        for (int i = 0; i < bites.length; i++) {
            Due.is("plan(" + hours + ", " + i + ")", x.plan(hours, i), bites[i]);
        }
        Due.is("plan(" + hours + ", " + bites.length + ")", x.plan(hours, bites.length), -2);
    }

    // Promise 33.
    private static void plan() {
        FarSide x = new FarSide();
        plans(x, 1);
        plans(x, 24);
        Due.is("plan(0, -1)", x.plan(0, -1), -2);
        Due.is("plan(25, -1)", x.plan(25, -1), -2);
        Due.is("plan(1, -2)", x.plan(1, -2), -2);
        Due.is("plan(-1, -1)", x.plan(-1, -1), -2);
        x.miss(5, 8);
        Due.is("plan(4, MAX)", x.plan(4, Integer.MAX_VALUE), -2);
        Due.is("plan(4, MIN)", x.plan(4, Integer.MIN_VALUE), -2);
        plans(x, 1, 5, 6, 7, 8);
        plans(x, 2, 5, 7);
        plans(x, 3, 3, 6);
        plans(x, 4, 5);
        plans(x, 5, 4);
        plans(x, 9, 0);
        plans(x, 24, 0);
        FarSide y = new FarSide();
        y.miss(22, 23);
        plans(y, 1, 22, 23);
        plans(y, 2, 22);
        plans(y, 5, 19);
        plans(y, 24, 0);
        y.miss(0, 0);
        plans(y, 23, 0, 23);
    }

    private static void earliest() {
        FarSide x = new FarSide();
        x.miss(2, 2);
        x.miss(6, 6);
        x.miss(9, 9);
        // Two bites of four hours: one has 6 and 9, so it is at 6; the first can be at 0.
        plans(x, 4, 0, 6);
        // Of five: 2 and 6 by one (at 2), or 6 and 9 by one (at 5 or 6): 0 first, then 5.
        plans(x, 5, 0, 5);
        plans(x, 7, 0, 7);
        plans(x, 8, 2);
        plans(x, 3, 0, 4, 7);
        FarSide y = new FarSide();
        y.miss(0, 0);
        y.miss(4, 4);
        plans(y, 4, 0, 4);
        plans(y, 5, 0);
        plans(y, 3, 0, 3);
    }

    private static void meetings() {
        FarSide x = new FarSide();
        x.miss(5, 6);
        x.meeting(8, 8);
        plans(x, 2, 5);
        plans(x, 3, 4);
        plans(x, 4, 3);
        plans(x, 8, 0);
        Due.is("nine hours: no way", x.plan(9, -1), -2);
        x.meeting(3, 3);
        plans(x, 4, 4);
        Due.is("five hours: no way", x.plan(5, -1), -2);
        Due.is("no way has no hours", x.plan(5, 0), -2);
        FarSide y = new FarSide();
        y.miss(5, 5);
        y.meeting(5, 5);
        Due.is("doing and meeting in one hour", y.plan(1, -1), -2);
        FarSide z = new FarSide();
        z.miss(23, 23);
        z.meeting(0, 21);
        plans(z, 1, 23);
        plans(z, 2, 22);
        plans(z, 24, 22);
        FarSide w = new FarSide();
        w.meeting(4, 4);
        w.miss(3, 3);
        w.miss(5, 5);
        // The first ends just ahead of the meeting, the second begins behind it.
        plans(w, 3, 1, 5);
    }

    private static void needs(FarSide x, int fewest, int most) {
        Due.is("need(0)", x.need(0), fewest);
        Due.is("need(1)", x.need(1), most);
    }

    // Promise 34.
    private static void need() {
        FarSide x = new FarSide();
        needs(x, 1, 24);
        x.meeting(0, 23);
        needs(x, 1, 24);
        x.miss(3, 3);
        needs(x, -1, -1);
        x.meeting(-1, 0);
        needs(x, 1, 24);
        x.meeting(7, 7);
        needs(x, 1, 7);
        x.meeting(1, 1);
        needs(x, 1, 5);
        x.miss(0, 0);
        needs(x, 1, 1);
        Due.is("need(2)", x.need(2), -1);
        Due.is("need(-1)", x.need(-1), -1);
    }
}
