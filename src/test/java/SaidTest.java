// Promises 42 and 43: what is said of returns, and whose law it was.
public final class SaidTest {
    public static void main(String[] args) {
        said();
        whose();
        Due.end();
    }

    // Promise 42.
    private static void said() {
        FarSide x = new FarSide();
        Due.is("said(-1, 77) of none", x.said(-1, 77), 0);
        Due.is("said of nobody", x.said(0, 3), -2);
        x.person(0, 5);
        x.person(0, 5);
        Due.is("said(0, 11)", x.said(0, 11), -2);
        Due.is("said(0, -1)", x.said(0, -1), -2);
        Due.is("said(2, 1)", x.said(2, 1), -2);
        Due.is("said(-2, 1)", x.said(-2, 1), -2);
        Due.is("said(MAX, 1)", x.said(Integer.MAX_VALUE, 1), -2);
        for (int i = 1; i <= 8; i++) {
            Due.is("said " + i, x.said(i % 2, i % 2 * 10), i);
        }
        Due.is("a ninth", x.said(0, 3), -2);
        Due.is("eight", x.about(7), 8);
        Due.is("said(-1, -1)", x.said(-1, -1), 0);
        Due.is("none any more", x.about(7), 0);
        Due.is("no steps", x.about(3), 0);
    }

    // Promise 43.
    private static void whose() {
        FarSide x = new FarSide();
        Due.is("no texts", x.whose(), 0);
        x.person(0, 5);
        x.person(3, 5);
        x.bite(1);
        Due.read(x, "bites 1;");
        Due.read(x, "returns 2 + depth;");
        Due.read(x, "returns who * 3;");
        Due.read(x, "returns 3;");
        Due.is("nothing is said: all", x.whose(), 15);
        x.said(1, 3);
        Due.is("all say so", x.whose(), 15);
        x.said(0, 2);
        Due.is("one without returns, and one like it", x.whose(), 3);
        x.said(-1, 0);
        x.said(0, 3);
        Due.is("3 alone", x.whose(), 8);
        x.said(1, 2);
        Due.is("none", x.whose(), 0);
        x.said(-1, 0);
        x.said(1, 4);
        Due.is("none yet", x.whose(), 0);
        x.bite(1);
        Due.is("as now", x.whose(), 3);
        x.by(3);
        Due.is("which one rules is no matter", x.whose(), 3);
        x.back();
        Due.is("without texts none", x.whose(), 0);
    }
}
