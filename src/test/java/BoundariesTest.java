import java.io.IOException;
import java.lang.reflect.InvocationTargetException;
import java.lang.reflect.Method;
import java.lang.reflect.Modifier;
import java.nio.file.Files;
import java.nio.file.Path;
import java.util.Arrays;
import java.util.Comparator;
import java.util.HashMap;
import java.util.Map;
import java.util.regex.Matcher;
import java.util.regex.Pattern;

/** Runs the test of each sentence that names a boundary case, and looks whether the sentence stands in the document. */
public final class BoundariesTest {
    private static final Path DOCUMENT = Path.of("../shared/DOC.md");
    private static final Class<?>[] TESTS = {FloorBoundaries.class, ActBoundaries.class, RowBoundaries.class,
        SeenBoundaries.class, ChanceBoundaries.class, SlotBoundaries.class};
    private static final int PROMISES = 29;

    private BoundariesTest() {
    }

    /** The document's parts by their headings ("Terms", "Promise 1"), each on one line. */
    private static Map<String, String> parts() throws IOException {
        Map<String, String> parts = new HashMap<>();
        Matcher part = Pattern.compile("(?ms)^## ([^:\\n]+)[^\\n]*$(.*?)(?=^## |\\z)")
                .matcher(Files.readString(DOCUMENT));
        while (part.find()) {
            parts.put(part.group(1).trim(), part.group(2).replaceAll("\\s+", " "));
        }
        return parts;
    }

    private static void runTest(Method test, Says says) throws ReflectiveOperationException {
        Due.by("Promise " + says.promise() + ", '" + says.words() + "' (" + test.getName() + "): ");
        int before = Due.asked();
        try {
            test.invoke(null);
        } catch (InvocationTargetException e) {
            Due.holds("threw " + e.getCause(), false);
        }
        Due.holds("the test asks something", Due.asked() > before);
        Due.by("");
    }

    private static Method[] testsOf(Class<?> owner) {
        return Arrays.stream(owner.getDeclaredMethods())
                .filter(method -> !Modifier.isPrivate(method.getModifiers()) && !method.isSynthetic())
                .sorted(Comparator.comparing(Method::getName))
                .toArray(Method[]::new);
    }

    public static void main(String[] args) throws IOException, ReflectiveOperationException {
        Map<String, String> parts = parts();
        int[] tests = new int[PROMISES + 1];
        for (Class<?> owner : TESTS) {
            for (Method test : testsOf(owner)) {
                Says says = test.getAnnotation(Says.class);
                Due.holds(test.getName() + " names its sentence", says != null);
                if (says == null) {
                    continue;
                }
                String where = parts.getOrDefault("Promise " + says.promise(), "") + "\n" + parts.get("Terms");
                Due.holds("the document says in promise " + says.promise() + " or its terms: " + says.words(),
                        where.contains(says.words()));
                tests[says.promise()]++;
                runTest(test, says);
            }
        }
        for (int promise = 1; promise <= PROMISES; promise++) {
            Due.holds("promise " + promise + " has tests of its boundaries", tests[promise] > 0);
        }
        System.out.println(Arrays.stream(tests).sum() + " tests of boundary sentences");
        Due.end();
    }
}
