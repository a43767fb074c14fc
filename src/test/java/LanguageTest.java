import java.io.IOException;
import java.nio.file.Files;
import java.nio.file.Path;
import java.util.List;

// What ../shared/LANGUAGE.md rules out of the program, as far as its words show it.
public final class LanguageTest {
    private static final List<String> RULED_OUT = List.of("throw", "throws", "try", "catch", "finally", "synchronized",
        "assert", "volatile", "native", "protected", "package", "System.out", "System.err", "System.nanoTime",
        "currentTimeMillis", "Random", "Thread", "Scanner", "String.format", "HashMap", "Exact", "hashCode", "toString",
        "->", "::");

    public static void main(String[] args) throws IOException {
        String program = Files.readString(Path.of("src/main/java/FarSide.java"));
        String code = program.replaceAll("//[^\n]*", "").replaceAll("\"[^\"\n]*\"", "\"\"").replaceAll("'[^'\n]*'", "' '");
        for (String word : RULED_OUT) {
            String pattern = Character.isLetter(word.charAt(0)) ? "(?s).*\\b" + word.replace(".", "\\.") + "\\b.*" : "(?s).*" + word + ".*";
            Due.no("the program has " + word, code.matches(pattern));
        }
        Due.no("texts are joined by +", code.matches("(?s).*(\"\\s*\\+|\\+\\s*\").*"));
        Due.is("imports", code.split("\nimport |^import ", -1).length - 1, 1);
        Due.yes("it imports Arrays alone", code.contains("import java.util.Arrays;"));
        int classes = code.split("\\bclass \\w+ \\{", -1).length - 1;
        Due.yes("twelve classes at most", classes <= 12);
        Due.end();
    }
}
