import java.io.IOException;
import java.lang.reflect.Method;
import java.lang.reflect.Modifier;
import java.nio.file.Files;
import java.nio.file.Path;
import java.util.regex.MatchResult;
import java.util.regex.Pattern;

/** Whether README.md tells the truth: each answer of its example, and that it names every call. */
public final class ReadmeTest {
    private static final Pattern COAST = Pattern.compile("\"([^\"]+)\"\\.toCharArray\\(\\)");
    /** A row of the example: a call on x, and its answer as the comment's first number. */
    private static final Pattern ROW = Pattern.compile("(?m)^x\\.(\\w+)\\(([^)]*)\\);\\s*// (-?\\d+):");

    public static void main(String[] args) throws IOException, ReflectiveOperationException {
        Checks checks = new Checks("ReadmeTest");
        String readme = Files.readString(Path.of("README.md"));
        theExample(checks, readme);
        theTable(checks, readme);
        checks.end();
    }

    private static void theExample(Checks checks, String readme) throws ReflectiveOperationException {
        int from = readme.indexOf("```java");
        String example = readme.substring(from, readme.indexOf("```", from + 3));
        String text = COAST.matcher(example).results().findFirst().orElseThrow().group(1);
        RiversQueue x = Checks.pageOf(text);
        int rows = 0;
        for (MatchResult row : ROW.matcher(example).results().toList()) {
            checks.due("README.md, " + row.group(1) + "(" + row.group(2) + ")",
                answer(x, row.group(1), row.group(2)), Long.parseLong(row.group(3)));
            rows++;
        }
        checks.due("all rows of the example were understood", rows, example.split("\nx\\.", -1).length - 1);
    }

    private static long answer(RiversQueue x, String call, String told) throws ReflectiveOperationException {
        String[] words = told.isEmpty() ? new String[0] : told.split(", ");
        for (Method method : RiversQueue.class.getDeclaredMethods()) {
            if (method.getName().equals(call) && method.getParameterCount() == words.length) {
                return ((Number) method.invoke(x, arguments(method, words))).longValue();
            }
        }
        throw new NoSuchMethodException(call);
    }

    private static Object[] arguments(Method method, String[] words) {
        Object[] arguments = new Object[words.length];
        for (int i = 0; i < words.length; i++) {
            boolean isTruth = method.getParameterTypes()[i] == boolean.class;
            arguments[i] = isTruth ? (Object) Boolean.valueOf(words[i]) : (Object) Integer.valueOf(words[i]);
        }
        return arguments;
    }

    private static void theTable(Checks checks, String readme) {
        for (Method method : RiversQueue.class.getDeclaredMethods()) {
            if (Modifier.isPublic(method.getModifiers())) {
                checks.due("the table has " + method.getName(), readme.contains("\n| `" + method.getName() + "("));
            }
        }
    }
}
