import java.io.IOException;
import java.lang.reflect.Method;
import java.lang.reflect.Modifier;
import java.nio.file.Files;
import java.nio.file.Path;
import java.util.List;
import java.util.regex.Matcher;
import java.util.regex.Pattern;

/** README.md tells the truth: its rows answer what stands behind them, and it names every call. */
public final class ReadmeTest {
    private static final Pattern BLOCK = Pattern.compile("(?s)```java\\n(.*?)```");
    private static final Pattern FED = Pattern.compile("for \\(char c : \"([^\"]*)\"\\.toCharArray\\(\\)\\) \\{");
    private static final Pattern ROW = Pattern.compile("x\\.(\\w+)\\(([^)]*)\\); +// (-?\\d+|BAD|STATE|FULL|NONE)\\b.*");
    private static final List<String> INSIDE_A_LOOP = List.of("", "    x.feed(c);", "}");
    private static final Check CHECK = new Check();

    private static void rowsAnswerAsTold(String readme) {
        Matcher block = BLOCK.matcher(readme);
        int rows = 0;
        while (block.find()) {
            String[] lines = block.group(1).split("\\n");
            CHECK.isTrue("a block begins with a new object", lines[0].equals("MownMaze x = new MownMaze();"));
            MownMaze x = new MownMaze();
            for (int i = 1; i < lines.length; i++) {
                rows += rowAnswersAsTold(x, lines[i]);
            }
        }
        CHECK.isTrue("README.md has rows with answers", rows > 0);
    }

    private static int rowAnswersAsTold(MownMaze x, String line) {
        Matcher fed = FED.matcher(line);
        if (fed.matches()) {
            Check.feed(x, fed.group(1));
            return 0;
        }
        Matcher row = ROW.matcher(line);
        if (row.matches()) {
            CHECK.due("README.md: " + line, Run.answer(x, words(row.group(1), row.group(2))), due(row.group(3)));
            return 1;
        }
        CHECK.isTrue("README.md: a row with its answer: " + line, INSIDE_A_LOOP.contains(line));
        return 0;
    }

    private static String words(String name, String numbers) {
        Matcher letter = Pattern.compile("'(.)'").matcher(numbers);
        String plain = letter.matches() ? "" + (int) letter.group(1).charAt(0) : numbers;
        return plain.isEmpty() ? name : name + " " + plain.replace(", ", " ");
    }

    private static long due(String answer) {
        int named = List.of("BAD", "STATE", "FULL", "NONE").indexOf(answer);
        return named >= 0 ? -1 - named : Long.parseLong(answer);
    }

    private static void everyCallIsNamed(String readme) {
        for (Method method : MownMaze.class.getDeclaredMethods()) {
            if (Modifier.isPublic(method.getModifiers())) {
                int numbers = method.getParameterCount();
                String list = numbers == 0 ? "" : "\\w+" + ", \\w+".repeat(numbers - 1);
                boolean named = Pattern.compile("`" + method.getName() + "\\(" + list + "\\)`").matcher(readme).find();
                CHECK.isTrue("README.md names " + method, named);
            }
        }
    }

    public static void main(String[] args) throws IOException {
        String readme = Files.readString(Path.of("README.md"));
        rowsAnswerAsTold(readme);
        everyCallIsNamed(readme);
        CHECK.isTrue("README.md says how the tests are run", readme.contains("`.ci/run`"));
        CHECK.finish();
    }
}
