import java.util.ArrayList;
import java.util.LinkedHashMap;
import java.util.List;
import java.util.Map;
import java.util.function.LongSupplier;

// A test for each sentence that names an edge: it quotes the sentence from the document, and stands on the edge.
final class Edges {
    private static final Map<String, List<String>> QUOTED = new LinkedHashMap<>();

    private Edges() {
    }

    static void term(String words, Runnable test) {
        of("Terms", words, test);
    }

    static void promise(int number, String words, Runnable test) {
        of("Promise " + number, words, test);
    }

    private static void of(String section, String words, Runnable test) {
        Due.at(section + ", \"" + words + "\": ");
        Due.yes("the document's saying so", Doc.says(section, words));
        QUOTED.computeIfAbsent(section, name -> new ArrayList<>()).add(words);
        int before = Due.asked();
        test.run();
        Due.yes("its test's asking anything", Due.asked() > before);
        Due.at("");
    }

    // No sentence may be without a test.
    static void allSentences() {
        for (String section : Doc.sections()) {
            for (String sentence : Doc.sentences(section)) {
                List<String> quoted = QUOTED.getOrDefault(section, List.of());
                Due.yes("a test of " + section + ", \"" + sentence + "\"", quoted.stream().anyMatch(sentence::contains));
            }
        }
        Due.is("how many sections there are", Doc.sections().size(), 52);
    }

    // Each call answers so, and nothing that can be seen becomes another by them.
    static void refused(FarSide x, long answer, LongSupplier... calls) {
        String before = seen(x);
        for (int i = 0; i < calls.length; i++) {
            Due.is("refused call " + i, calls[i].getAsLong(), answer);
        }
        Due.same("what is seen behind the refused calls", seen(x), before);
    }

    static long bit(boolean is) {
        return is ? 1 : 0;
    }

    // Some hundred calls at most: an object has 512 of them.
    static String seen(FarSide x) {
        StringBuilder seen = new StringBuilder();
        for (int what = 0; what <= 8; what++) {
            seen.append(x.about(what)).append(' ');
        }
        for (int what = 0; what <= 3; what++) {
            seen.append(x.is(what)).append(' ');
        }
        for (int person = 0; person < x.about(0); person++) {
            for (int what = 0; what <= 6; what++) {
                seen.append(x.of(person, what)).append(' ');
            }
        }
        for (int place = 0; place < 8; place++) {
            seen.append(x.place(place, 0)).append(' ').append(x.place(place, 1)).append(' ');
        }
        int lines = x.book(-1, 0);
        for (int what = 0; what <= 3; what++) {
            seen.append(x.book(0, what)).append(' ').append(x.book(lines - 1, what)).append(' ');
        }
        return seen.append(lines).append(' ').append(x.fault(0)).append(' ').append(x.fault(1)).toString();
    }
}
