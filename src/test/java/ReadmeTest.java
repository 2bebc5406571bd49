import java.io.IOException;
import java.lang.reflect.Method;
import java.nio.file.Files;
import java.nio.file.Path;
import java.util.ArrayList;
import java.util.Arrays;
import java.util.HashSet;
import java.util.List;
import java.util.Set;
import java.util.regex.Matcher;
import java.util.regex.Pattern;

/** The calls that README.md shows answer what it says beside them. */
public final class ReadmeTest {
    private static final Pattern MADE = Pattern.compile("GradedUsage x = new GradedUsage\\(([^)]*)\\);");
    private static final Pattern CALL = Pattern.compile("x\\.(\\w+)\\(([^)]*)\\);(?:\\s*// (-?\\w+)\\b.*)?");
    private static final Set<String> TRIED = new HashSet<>();

    private static GradedUsage x;

    public static void main(String[] args) throws IOException, ReflectiveOperationException {
        boolean inExample = false;
        for (String line : Files.readAllLines(Path.of("README.md"))) {
            if (line.startsWith("```")) {
                inExample = line.equals("```java");
            } else if (inExample && !line.isBlank() && !line.startsWith("//")) {
                tryLine(line);
            }
        }
        for (Method method : GradedUsage.class.getMethods()) {
            if (method.getDeclaringClass() == GradedUsage.class) {
                Due.is("README.md shows " + method.getName(), TRIED.contains(method.getName()) ? 1 : 0, 1);
            }
        }
        Due.finish();
    }

    private static void tryLine(String line) throws ReflectiveOperationException {
        Matcher made = MADE.matcher(line);
        Matcher call = CALL.matcher(line);
        if (made.matches()) {
            List<Object> limits = numbers(made.group(1));
            x = new GradedUsage((int) limits.get(0), (int) limits.get(1), (int) limits.get(2));
        } else if (call.matches()) {
            tryCall(line, call.group(1), numbers(call.group(2)), call.group(3));
        } else {
            Due.is("a line of README.md that cannot be tried: " + line, 1, 0);
        }
    }

    private static void tryCall(String line, String name, List<Object> arguments, String answer)
            throws ReflectiveOperationException {
        Class<?>[] types = new Class<?>[arguments.size()];
        Arrays.fill(types, int.class);
        Method method = GradedUsage.class.getMethod(name, types);
        Object got = method.invoke(x, arguments.toArray());
        TRIED.add(name);
        boolean answers = method.getReturnType() == int.class;
        Due.is("an answer is told exactly if there is one: " + line, answer != null ? 1 : 0, answers ? 1 : 0);
        if (answers && answer != null) {
            Due.is("README.md: " + line, (int) got, number(answer));
        }
    }

    private static List<Object> numbers(String text) throws ReflectiveOperationException {
        List<Object> found = new ArrayList<>();
        for (String word : text.split(",\\s*")) {
            if (!word.isEmpty()) {
                found.add(number(word));
            }
        }
        return found;
    }

    private static int number(String word) throws ReflectiveOperationException {
        if (word.matches("-?\\d+")) {
            return Integer.parseInt(word);
        }
        return GradedUsage.class.getField(word.replace("GradedUsage.", "")).getInt(null);
    }
}
