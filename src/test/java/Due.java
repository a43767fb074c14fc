// What every test uses: comparing an answer with the due one, and putting a text on the tape.
final class Due {
    private static int wrong;
    private static int asked;
    private static String where = "";

    private Due() {
    }

    // What is asked from here on belongs there: a wrong answer tells it.
    static void at(String place) {
        where = place;
    }

    static int asked() {
        return asked;
    }

    static void is(String call, long got, long want) {
        same(call, String.valueOf(got), String.valueOf(want));
    }

    static void same(String call, String got, String want) {
        asked++;
        if (!got.equals(want)) {
            wrong++;
            System.out.println(where + call + " answered " + got + ", due is " + want);
        }
    }

    static void yes(String call, boolean got) {
        is(call, got ? 1 : 0, 1);
    }

    static void no(String call, boolean got) {
        is(call, got ? 1 : 0, 0);
    }

    static void tape(FarSide x, String text) {
        x.end(0);
        for (int start = 0; start < text.length(); start += 20) {
            x.feed(word(text, start), word(text, start + 4), word(text, start + 8), word(text, start + 12), word(text, start + 16));
        }
        is("end", x.end(text.length()), text.length());
    }

    static int word(String text, int start) {
        int word = 0;
        for (int i = start; i < start + 4; i++) {
            word = word << 8 | (i < text.length() ? text.charAt(i) & 255 : 0);
        }
        return word;
    }

    // The number that the text gets, or NONE.
    static int read(FarSide x, String text) {
        tape(x, text);
        return x.text();
    }

    static void fault(String text, int what, int place) {
        FarSide x = new FarSide();
        is("text of \"" + text + "\"", read(x, text), what == 0 ? 0 : -1);
        is("fault(0) of \"" + text + "\"", x.fault(0), what);
        is("fault(1) of \"" + text + "\"", x.fault(1), place);
    }

    static void end() {
        System.out.println(wrong == 0 ? asked + " answers are as due" : wrong + " of " + asked + " answers are not as due");
        if (wrong != 0) {
            System.exit(1);
        }
    }
}
