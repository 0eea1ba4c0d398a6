import java.io.File;
import java.io.IOException;
import java.lang.reflect.Method;
import java.lang.reflect.Modifier;
import java.nio.file.Files;
import java.nio.file.Path;
import java.util.regex.Matcher;
import java.util.regex.Pattern;

/** README.md: its examples, one behind the other on one object, and that it names every call and every test. */
public final class ReadmeTest {
    private static final Pattern BLOCK = Pattern.compile("```java\n(.*?)```", Pattern.DOTALL);
    private static final Pattern CALL = Pattern.compile("countdown\\.(\\w+)\\((.*)\\); +// (-?\\w+|throws \\w+): .*");
    private static final Pattern CODE = Pattern.compile("'(.)'");
    private static final String FIRST_LINE = "LaunchCountdown countdown = new LaunchCountdown();";

    public static void main(String[] args) throws IOException {
        String page = Files.readString(Path.of("README.md"));
        examples(page);
        calls(page);
        tests(page);
        Runs.end();
    }

    private static void examples(String page) {
        LaunchCountdown countdown = new LaunchCountdown();
        Matcher block = BLOCK.matcher(page);
        int lines = 0;
        while (block.find()) {
            for (String line : block.group(1).split("\n")) {
                if (lines > 0 || !line.startsWith(FIRST_LINE)) {
                    example(countdown, line);
                }
                lines++;
            }
        }
        Runs.due("README.md has examples", lines > 0, true);
    }

    private static void example(LaunchCountdown countdown, String line) {
        Matcher call = CALL.matcher(line);
        boolean isCall = call.matches();
        Runs.due("README.md, a call with its answer: " + line, isCall, true);
        if (isCall) {
            String got = Runs.answer(countdown, call.group(1), Runs.arguments(numbers(call.group(2))));
            Runs.due("README.md, " + line, got, call.group(3));
        }
    }

    private static String numbers(String arguments) {
        String plain = arguments.replace("LaunchCountdown.NONE", String.valueOf(LaunchCountdown.NONE));
        return CODE.matcher(plain).replaceAll(code -> String.valueOf((int) code.group(1).charAt(0)));
    }

    private static void calls(String page) {
        for (Method method : LaunchCountdown.class.getDeclaredMethods()) {
            if (Modifier.isPublic(method.getModifiers())) {
                Runs.due("README.md tells of " + method.getName(), page.contains("| `" + method.getName() + "("), true);
            }
        }
    }

    private static void tests(String page) {
        for (File file : new File("src/test/java").listFiles()) {
            String name = file.getName().replace(".java", "");
            Runs.due("README.md tells of " + name, page.contains("`" + name + "`"), true);
        }
    }
}
