import java.io.IOException;
import java.lang.reflect.Method;
import java.nio.file.Files;
import java.nio.file.Path;
import java.util.regex.Matcher;
import java.util.regex.Pattern;

/** The example in README.md answers what its comments say. It runs in the project's root. */
public final class ReadmeTest {
    private static final Pattern TEXT =
        Pattern.compile("for \\(char c : \"(.*)\"\\.toCharArray\\(\\)\\) terms\\.type\\(c\\);");
    private static final Pattern CALL =
        Pattern.compile("terms\\.(\\w+)\\(([-\\d, ]*)\\); +// (-?\\d+)\\b.*");

    public static void main(String[] args) throws IOException, ReflectiveOperationException {
        String readme = Files.readString(Path.of("README.md"));
        String[] parts = readme.split("```(java)?\n", -1);
        Bench.due("parts of README.md: one example", parts.length, 3);
        String[] lines = parts.length > 1 ? parts[1].split("\n") : new String[0];
        Bench.due("first line", lines[0], "JudgedTerms terms = new JudgedTerms();");
        JudgedTerms terms = new JudgedTerms();
        for (int i = 1; i < lines.length; i++) {
            run(terms, lines[i]);
        }
        Bench.end("ReadmeTest");
    }

    private static void run(JudgedTerms terms, String line) throws ReflectiveOperationException {
        Matcher text = TEXT.matcher(line);
        Matcher call = CALL.matcher(line);
        if (text.matches()) {
            for (char c : text.group(1).toCharArray()) {
                terms.type(c);
            }
        } else if (call.matches()) {
            Bench.due(line, answer(terms, call.group(1), call.group(2)),
                Integer.parseInt(call.group(3)));
        } else {
            Bench.due(line, "is no call with an answer", "a text or a call with an answer");
        }
    }

    private static int answer(JudgedTerms terms, String name, String arguments)
        throws ReflectiveOperationException {
        String[] words = arguments.isEmpty() ? new String[0] : arguments.split(", ");
        Object[] numbers = new Object[words.length];
        Class<?>[] types = new Class<?>[words.length];
        for (int i = 0; i < words.length; i++) {
            numbers[i] = Integer.parseInt(words[i]);
            types[i] = int.class;
        }
        Method method = JudgedTerms.class.getMethod(name, types);
        return (Integer) method.invoke(terms, numbers);
    }
}
