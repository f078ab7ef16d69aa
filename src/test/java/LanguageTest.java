import java.io.IOException;
import java.nio.file.Files;
import java.nio.file.Path;
import java.util.regex.Matcher;
import java.util.regex.Pattern;

/** The rules of LANGUAGE.md that can be seen in the source's words. It runs in the project's root. */
public final class LanguageTest {
    private static final String[] FORBIDDEN = {
        "\\bthrow\\b", "\\bthrows\\b", "\\btry\\b", "\\bcatch\\b", "\\bsynchronized\\b",
        "\\bassert\\b", "\\bprotected\\b", "\\bnative\\b", "\\bvolatile\\b", "->", "::",
        "\\bhashCode\\b", "\\btoString\\b", "\\bSystem\\b(?!\\.arraycopy)", "\\bThread\\b",
        "\\bstatic\\s*\\{", "^package\\b", "import (?!java\\.util\\.Arrays;)",
    };
    private static final String[] FACE = {
        "type", "clear", "laws", "law", "given", "found", "same", "enters", "drops", "undo",
        "entry", "like", "sees", "forget", "unseen", "keep", "back", "count",
    };

    public static void main(String[] args) throws IOException {
        String source = Files.readString(Path.of("src/main/java/JudgedTerms.java"));
        String code = source.replaceAll("(?s)/\\*.*?\\*/", "").replaceAll("//[^\n]*", "");
        for (String word : FORBIDDEN) {
            Matcher m = Pattern.compile(word, Pattern.MULTILINE).matcher(code);
            Bench.due("forbidden: " + word, m.find() ? 1 : 0, 0);
        }
        for (String name : FACE) {
            Matcher m = Pattern.compile("\\b(int|void|boolean|Form|Entry|Laws) " + name + "\\(")
                .matcher(code);
            int many = 0;
            while (m.find()) {
                many++;
            }
            Bench.due("methods with the name " + name, many, 1);
        }
        Bench.due("public members", code.split("\\bpublic\\b", -1).length - 1, FACE.length + 3);
        Bench.end("LanguageTest");
    }
}
