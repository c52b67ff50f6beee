import java.io.IOException;
import java.lang.reflect.InvocationTargetException;
import java.lang.reflect.Method;
import java.lang.reflect.Modifier;
import java.util.Arrays;
import java.util.Comparator;

/** Runs the test of each sentence that names a boundary case, and looks whether the sentence stands in the document. */
public final class BoundariesTest {
    private static final Class<?>[] TESTS = {FrontBoundaries.class, FloorBoundaries.class, ActBoundaries.class,
        RowBoundaries.class, SeenBoundaries.class, ChanceBoundaries.class, SlotBoundaries.class};
    private static final int PROMISES = 29;

    private BoundariesTest() {
    }

    private static void runTest(Method test, Says says) throws ReflectiveOperationException {
        Due.by((says.promise() == 0 ? "Ahead of the promises" : "Promise " + says.promise())
                + ", '" + says.words() + "' (" + test.getName() + "): ");
        int before = Due.asked();
        try {
            test.invoke(null);
        } catch (InvocationTargetException e) {
            Due.holds("threw " + e.getCause(), false);
        }
        Due.holds("the test asks something", Due.asked() > before);
        Due.by("");
    }

    private static Method[] testsOf(Class<?> owner) {
        return Arrays.stream(owner.getDeclaredMethods())
                .filter(method -> !Modifier.isPrivate(method.getModifiers()) && !method.isSynthetic())
                .sorted(Comparator.comparing(Method::getName))
                .toArray(Method[]::new);
    }

    public static void main(String[] args) throws IOException, ReflectiveOperationException {
        Document document = Document.read();
        int[] tests = new int[PROMISES + 1];
        for (Class<?> owner : TESTS) {
            for (Method test : testsOf(owner)) {
                Says says = test.getAnnotation(Says.class);
                Due.holds(test.getName() + " names its sentence", says != null);
                if (says == null) {
                    continue;
                }
                Due.holds("the document says in promise " + says.promise() + " or ahead of all: " + says.words(),
                        document.says(says.promise(), says.words()));
                tests[says.promise()]++;
                runTest(test, says);
            }
        }
        for (int promise = 0; promise <= PROMISES; promise++) {
            Due.holds("promise " + promise + " has tests of its boundaries", tests[promise] > 0);
        }
        System.out.println(Arrays.stream(tests).sum() + " tests of boundary sentences");
        Due.end();
    }
}
