import java.io.IOException;
import java.lang.reflect.Method;
import java.lang.reflect.Modifier;
import java.nio.file.Files;
import java.nio.file.Path;
import java.util.regex.Matcher;
import java.util.regex.Pattern;

/** README.md's example answers what its comments say, and the page names each call of the face. */
public final class ReadmeTest {
    private static final Check CHECK = new Check();
    private static final Pattern CALL =
            Pattern.compile("x\\.([a-z]+)\\((.*)\\); +// (-?[0-9]+|true|false): .+");
    private static final int CALLS_SHOWN = 16;

    public static void main(String[] args) throws IOException {
        String page = Files.readString(Path.of("README.md"));
        exampleAnswers(page);
        eachCallIsNamed(page);
        CHECK.due("README says how to run the tests", page.contains("`bash .ci/run`"), true);
        CHECK.close();
    }

    private static void exampleAnswers(String page) {
        TurnNet x = new TurnNet();
        int shown = 0;
        for (String line : firstExample(page).split("\n")) {
            Matcher m = CALL.matcher(line);
            if (m.matches()) {
                shown++;
                CHECK.due(line, Runs.call(x, asRow(m.group(1), m.group(2))), answer(m.group(3)));
            } else {
                CHECK.due("a line without an answer: " + line,
                        line.isEmpty() || line.equals("TurnNet x = new TurnNet();"), true);
            }
        }
        CHECK.due("calls shown in the example", shown >= CALLS_SHOWN, true);
    }

    private static String firstExample(String page) {
        String begin = "```java\n";
        int from = page.indexOf(begin) + begin.length();
        return page.substring(from, page.indexOf("```", from));
    }

    private static String asRow(String name, String arguments) {
        StringBuilder row = new StringBuilder(name);
        for (String argument : arguments.split(", ")) {
            if (!argument.isEmpty()) {
                row.append(' ').append((int) (long) Long.decode(argument));
            }
        }
        return row.toString();
    }

    private static long answer(String told) {
        return told.equals("true") ? 1 : told.equals("false") ? 0 : Long.parseLong(told);
    }

    private static void eachCallIsNamed(String page) {
        for (Method m : TurnNet.class.getDeclaredMethods()) {
            if (Modifier.isPublic(m.getModifiers())) {
                CHECK.due("README names " + m.getName(), page.contains("`" + m.getName() + "`"), true);
            }
        }
    }
}
