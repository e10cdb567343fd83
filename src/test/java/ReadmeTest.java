import java.io.IOException;
import java.lang.reflect.Method;
import java.lang.reflect.Modifier;
import java.nio.file.Files;
import java.nio.file.Path;
import java.util.Arrays;
import java.util.regex.Matcher;
import java.util.regex.Pattern;

/** The example of README.md answers what stands behind its calls, and README.md names every call. */
public final class ReadmeTest {
    private static final Pattern TYPED = Pattern.compile("for \\(char letter : \"([^\"]*)\"\\.toCharArray.*");
    private static final Pattern CALL = Pattern.compile("x\\.(\\w+)\\(([-0-9, ]*)\\);\\s+// (-?\\d+)\\b.*");

    private static final Check check = new Check();

    public static void main(String[] args) throws IOException, ReflectiveOperationException {
        String readme = Files.readString(Path.of("README.md"));
        runExample(example(readme));
        for (Method method : BuyersWeights.class.getDeclaredMethods()) {
            if (Modifier.isPublic(method.getModifiers())) {
                String name = method.getName();
                check.due("README.md names " + name, readme.contains("`" + name + "`") ? 1 : 0, 1);
            }
        }
        check.end("ReadmeTest");
    }

    private static String example(String readme) {
        int start = readme.indexOf("```java\n");
        int end = readme.indexOf("```", start + 3);
        if (start < 0 || end < 0) {
            throw new IllegalStateException("README.md has no example");
        }
        return readme.substring(start + "```java\n".length(), end);
    }

    private static void runExample(String example) throws ReflectiveOperationException {
        BuyersWeights x = new BuyersWeights();
        int run = 0;
        for (String line : example.split("\n")) {
            Matcher typed = TYPED.matcher(line);
            Matcher call = CALL.matcher(line);
            if (typed.matches()) {
                Check.typed(x, typed.group(1));
            } else if (call.matches()) {
                check.due(line, answer(x, call.group(1), call.group(2)), Long.parseLong(call.group(3)));
                run++;
            } else if (line.startsWith("x.")) {
                check.due("this line has a call and its answer: " + line, 0, 1);
            }
        }
        check.due("the example has calls", run > 0 ? 1 : 0, 1);
    }

    private static long answer(BuyersWeights x, String name, String numbers) throws ReflectiveOperationException {
        Object[] given = numbers.isEmpty() ? new Object[0]
            : Arrays.stream(numbers.split(", ")).map(Integer::valueOf).toArray();
        Class<?>[] types = new Class<?>[given.length];
        Arrays.fill(types, int.class);
        return ((Number) BuyersWeights.class.getMethod(name, types).invoke(x, given)).longValue();
    }
}
