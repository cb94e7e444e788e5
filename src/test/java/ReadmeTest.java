import java.io.IOException;
import java.lang.reflect.Method;
import java.lang.reflect.Modifier;
import java.nio.file.Files;
import java.nio.file.Path;
import java.util.regex.Matcher;
import java.util.regex.Pattern;

/** README.md tells how to use the class: each answer in its example is the one that a new object gives. */
public final class ReadmeTest {
    private static final Due DUE = new Due("ReadmeTest");
    private static final Pattern ANSWERED = Pattern.compile("town\\.(\\w+)\\(([-0-9, ]*)\\); +// (-?\\d+):.*");
    private static final Pattern WRITTEN = Pattern.compile("for \\(char letter : \"(.*)\"\\.toCharArray\\(\\)\\) \\{");
    private static final Pattern CALL = Pattern.compile("\\btown\\.(\\w+)\\(");

    public static void main(String[] args) throws IOException {
        String readme = Files.readString(Path.of(System.getProperty("project", ".")).resolve("README.md"));
        Matcher block = Pattern.compile("```java\n(.*?)```", Pattern.DOTALL).matcher(readme);
        DUE.is("README.md has an example", block.find() ? 1 : 0, 1);
        GateSayings town = new GateSayings();
        for (String line : block.group(1).split("\n")) {
            follow(town, line);
        }
        allCallsAreNamed(readme);
        DUE.end();
    }

    private static void follow(GateSayings town, String line) {
        Matcher answered = ANSWERED.matcher(line);
        Matcher written = WRITTEN.matcher(line);
        if (answered.matches()) {
            int[] numbers = new int[4];
            String[] told = answered.group(2).split(", ");
            for (int i = 0; i < told.length && !told[i].isEmpty(); i++) {
                numbers[i] = Integer.parseInt(told[i]);
            }
            DUE.is(line, Calls.answer(town, answered.group(1), numbers[0], numbers[1], numbers[2], numbers[3]),
                Integer.parseInt(answered.group(3)));
        } else if (written.matches()) {
            Due.write(town, written.group(1));
        } else {
            Matcher call = CALL.matcher(line);
            DUE.is("an answer is told: " + line, call.find() && !call.group(1).equals("write") ? 0 : 1, 1);
        }
    }

    private static void allCallsAreNamed(String readme) {
        for (Method method : GateSayings.class.getDeclaredMethods()) {
            if (Modifier.isPublic(method.getModifiers())) {
                DUE.is("README.md names " + method.getName(), readme.contains("`" + method.getName() + "`") ? 1 : 0, 1);
            }
        }
    }
}
