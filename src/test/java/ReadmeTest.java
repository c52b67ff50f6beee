import java.io.IOException;
import java.lang.reflect.Method;
import java.lang.reflect.Modifier;
import java.nio.file.Files;
import java.nio.file.Path;
import java.util.ArrayList;
import java.util.List;
import java.util.Map;
import java.util.TreeMap;
import java.util.regex.Matcher;
import java.util.regex.Pattern;

/** What README.md shows is so: its examples answer as they say, its tables name each call, its tests are there. */
public final class ReadmeTest {
    private static final Path README = Path.of("README.md");
    private static final Pattern EXAMPLE = Pattern.compile("(?ms)^```java$(.*?)^```$");
    private static final Pattern TEXT = Pattern.compile("\"(\\w+)\"\\.toCharArray\\(\\)");
    private static final Pattern CALL = Pattern.compile("guilt\\.(\\w+)\\(([^()]*)\\); *// (-?\\d+)(?=[:;]|$)");

    private ReadmeTest() {
    }

    private static Map<String, Method> calls() {
        Map<String, Method> calls = new TreeMap<>();
        for (Method method : WinnowedGuilt.class.getDeclaredMethods()) {
            if (Modifier.isPublic(method.getModifiers())) {
                calls.put(method.getName(), method);
            }
        }
        return calls;
    }

    private static Object value(String told, Class<?> type) {
        if (type == boolean.class) {
            return Boolean.valueOf(told);
        }
        if (type == long.class) {
            return Long.valueOf(told);
        }
        return Integer.valueOf(told);
    }

    private static long answer(WinnowedGuilt guilt, Method call, String told) throws ReflectiveOperationException {
        List<Object> values = new ArrayList<>();
        String[] each = told.isEmpty() ? new String[0] : told.split(", ");
        for (int i = 0; i < each.length; i++) {
            values.add(value(each[i], call.getParameterTypes()[i]));
        }
        return ((Number) call.invoke(guilt, values.toArray())).longValue();
    }

    /** Each row of an example in its order; a row that calls something must tell the answer. */
    private static void example(String rows) throws ReflectiveOperationException {
        WinnowedGuilt guilt = new WinnowedGuilt();
        for (String row : rows.split("\n")) {
            Matcher text = TEXT.matcher(row);
            Matcher call = CALL.matcher(row);
            if (text.find()) {
                Due.write(guilt, text.group(1));
            } else if (call.find()) {
                Due.is("README: " + row.strip(), answer(guilt, calls().get(call.group(1)), call.group(2)),
                        Long.parseLong(call.group(3)));
            } else {
                Due.holds("README tells the answer of '" + row.strip() + "'",
                        !row.contains("guilt.") || row.contains("guilt.write(letter)"));
            }
        }
    }

    public static void main(String[] args) throws IOException, ReflectiveOperationException {
        String readme = Files.readString(README);
        int before = Due.asked();
        Matcher examples = EXAMPLE.matcher(readme);
        while (examples.find()) {
            example(examples.group(1));
        }
        Due.holds("README has examples", Due.asked() > before);
        for (String name : calls().keySet()) {
            Due.holds("README's tables name " + name, Pattern.compile("(?m)^\\| `" + name + "\\(").matcher(readme).find());
        }
        try (var tests = Files.list(Path.of("src/test/java"))) {
            tests.map(test -> test.getFileName().toString().replace(".java", "")).forEach(name ->
                    Due.holds("README names " + name, readme.contains("`" + name + "`")));
        }
        Due.end();
    }
}
