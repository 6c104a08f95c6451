import java.io.IOException;
import java.lang.reflect.InvocationTargetException;
import java.lang.reflect.Method;
import java.nio.file.Files;
import java.nio.file.Path;
import java.util.HashMap;
import java.util.Map;
import java.util.regex.Matcher;
import java.util.regex.Pattern;

/** README.md: each call of its example answers the number behind it, and no call of the face is left out. */
public final class ReadmeTest {
    private static final Pattern CALL = Pattern.compile("(?:int (\\w+) = )?judge\\.(\\w+)\\((.*)\\); +// (-?[0-9]+)(?::.*)?");

    private final Due due = new Due();
    private final OrderJudge judge = new OrderJudge();
    private final Map<String, Long> named = new HashMap<>();

    public static void main(String[] args) throws IOException, ReflectiveOperationException {
        ReadmeTest test = new ReadmeTest();
        String page = Files.readString(Path.of("README.md"));
        test.example(page);
        test.namesEveryCall(page);
        test.namesEveryTest(page);
        test.due.end();
    }

    private void example(String page) throws ReflectiveOperationException {
        String begin = "```java\n";
        int from = page.indexOf(begin) + begin.length();
        String[] rows = page.substring(from, page.indexOf("```", from)).split("\n");
        due.is(rows[0], rows[0].equals("OrderJudge judge = new OrderJudge();") ? 1 : 0, 1);
        for (int i = 1; i < rows.length; i++) {
            if (!rows[i].isEmpty()) {
                row(rows[i]);
            }
        }
    }

    private void row(String row) throws ReflectiveOperationException {
        Matcher call = CALL.matcher(row);
        if (!call.matches()) {
            due.report("no call with its answer: " + row);
            return;
        }
        long answer = asked(call.group(2), call.group(3).split(", "));
        due.is(row, answer, Long.parseLong(call.group(4)));
        if (call.group(1) != null) {
            named.put(call.group(1), answer);
        }
    }

    private long asked(String name, String[] given) throws IllegalAccessException, InvocationTargetException {
        Method method = methodNamed(name);
        Class<?>[] types = method.getParameterTypes();
        Object[] arguments = new Object[types.length];
        for (int i = 0; i < types.length; i++) {
            long value = named.containsKey(given[i]) ? named.get(given[i]) : Long.parseLong(given[i]);
            if (types[i] == long.class) {
                arguments[i] = value;
            } else {
                arguments[i] = (int) value;
            }
        }
        return ((Number) method.invoke(judge, arguments)).longValue();
    }

    private static Method methodNamed(String name) {
        for (Method method : OrderJudge.class.getDeclaredMethods()) {
            if (method.getName().equals(name)) {
                return method;
            }
        }
        throw new IllegalArgumentException("no call " + name);
    }

    private void namesEveryCall(String page) {
        for (Method method : OrderJudge.class.getMethods()) {
            if (method.getDeclaringClass() == OrderJudge.class) {
                due.is("README names " + method.getName(), page.contains("| `" + method.getName() + "(") ? 1 : 0, 1);
            }
        }
    }

    private void namesEveryTest(String page) throws IOException {
        try (var files = Files.newDirectoryStream(Path.of("src/test/java"), "*Test.java")) {
            for (Path file : files) {
                String name = file.getFileName().toString().replace(".java", "");
                due.is("README names " + name, page.contains("| `" + name + "` |") ? 1 : 0, 1);
            }
        }
    }
}
