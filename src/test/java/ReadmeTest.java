import java.io.File;
import java.io.IOException;
import java.lang.reflect.InvocationTargetException;
import java.lang.reflect.Method;
import java.lang.reflect.Modifier;
import java.nio.file.Files;
import java.nio.file.Path;
import java.util.regex.Matcher;
import java.util.regex.Pattern;

/** README.md: each call of its example answers what stands behind it, and no call or test is left out. */
public final class ReadmeTest extends Promise {
    private static final Pattern EXAMPLE = Pattern.compile("(?s)```java\n(.*?)```");
    private static final Pattern CALL = Pattern.compile("court\\.(\\w+)\\(([^()]*)\\)\\)?; *// (-?[0-9]+)");

    public static void main(String[] args) throws IOException, ReflectiveOperationException {
        String page = Files.readString(Path.of("README.md"));
        example(page);
        calls(page);
        tests(page);
        Due.end("ReadmeTest");
    }

    private static void example(String page) throws ReflectiveOperationException {
        Matcher block = EXAMPLE.matcher(page);
        String example = block.find() ? block.group(1) : "";
        StairCourt court = new StairCourt();
        Matcher call = CALL.matcher(example);
        int told = 0;
        while (call.find()) {
            told++;
            due("README: " + call.group(), answer(court, call.group(1), call.group(2)), Long.parseLong(call.group(3)));
        }
        // A line of another form would go by unseen.
        due("README: calls with their answers", told, example.split("court\\.", -1).length - 1);
        duty("README: some calls", told > 20 ? 1 : 0, true);
    }

    private static long answer(StairCourt court, String name, String numbers) throws ReflectiveOperationException {
        String[] given = numbers.isEmpty() ? new String[0] : numbers.split(", *");
        for (Method method : StairCourt.class.getMethods()) {
            if (method.getName().equals(name) && method.getParameterCount() == given.length) {
                return answer(court, method, given);
            }
        }
        throw new NoSuchMethodException(name + " of " + given.length);
    }

    private static long answer(StairCourt court, Method method, String[] given)
            throws IllegalAccessException, InvocationTargetException {
        Object[] numbers = new Object[given.length];
        for (int i = 0; i < given.length; i++) {
            long number = number(given[i]);
            numbers[i] = method.getParameterTypes()[i] == long.class ? (Object) number : (Object) (int) number;
        }
        return ((Number) method.invoke(court, numbers)).longValue();
    }

    private static long number(String given) {
        return given.startsWith("'") ? given.charAt(1) : Long.decode(given.replace("L", ""));
    }

    private static void calls(String page) {
        for (Method method : StairCourt.class.getDeclaredMethods()) {
            if (Modifier.isPublic(method.getModifiers())) {
                duty("README names " + method.getName(), page.contains("`" + method.getName() + "`") ? 1 : 0, true);
            }
        }
    }

    private static void tests(String page) {
        String[] files = new File("src/test/java").list();
        duty("there are tests", files != null ? 1 : 0, true);
        for (String file : files == null ? new String[0] : files) {
            if (file.endsWith("Test.java")) {
                String name = file.substring(0, file.length() - ".java".length());
                duty("README names " + name, page.contains("| `" + name + "` |") ? 1 : 0, true);
            }
        }
    }
}
