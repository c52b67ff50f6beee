import java.io.IOException;
import java.lang.reflect.Constructor;
import java.lang.reflect.Field;
import java.lang.reflect.Method;
import java.lang.reflect.Modifier;
import java.nio.file.Files;
import java.nio.file.Path;
import java.util.Set;
import java.util.TreeSet;
import java.util.regex.Pattern;

/** The public face is the document's and no more, and the program keeps to rules of LANGUAGE.md that can be looked for. */
public final class FaceTest {
    private static final Set<String> METHODS = Set.of("int write(int)", "int wipe()", "int fault()", "int floor()",
            "int person(int,int)", "int grain(int,int)", "int toss(int)", "int calm()", "int pick(int)", "int fan(int)",
            "int undo()", "int best(int,boolean)", "int fewest(int)", "int when(int)", "int votes(int)", "int chosen()",
            "int judge(int,int)", "int see(int,int,int)", "int unsee()", "int weights(int)", "int share(int,boolean)",
            "int rests(int,int,int)", "int gust(int,int,int,boolean)", "long seed(long)", "int years(int)",
            "int keep(int)", "int again(int)", "int count(int)");
    private static final Set<String> CONSTANTS = Set.of("UNKNOWN=-1", "OUTSIDE=-2", "STATE=-3", "FULL=-4", "NONE=-9");
    /** Words that no rule of LANGUAGE.md leaves room for, as patterns. */
    private static final String[] RULED_OUT = {"\\b(throws?|try|catch|synchronized|assert|import|package|protected)\\b",
            "\\b(hashCode|Random|Thread|Object|var|NaN)\\b", "\\bSystem\\.(?!arraycopy)", "->", "::", "Exact\\b"};

    private FaceTest() {
    }

    private static void methods() {
        Set<String> open = new TreeSet<>();
        Set<String> names = new TreeSet<>();
        for (Method method : WinnowedGuilt.class.getDeclaredMethods()) {
            if (Modifier.isPrivate(method.getModifiers())) {
                continue;
            }
            StringBuilder told = new StringBuilder();
            for (Class<?> type : method.getParameterTypes()) {
                told.append(told.length() == 0 ? "" : ",").append(type.getName());
            }
            open.add(method.getReturnType().getName() + " " + method.getName() + "(" + told + ")");
            names.add(method.getName());
            Due.holds(method.getName() + " is public", Modifier.isPublic(method.getModifiers()));
            Due.holds(method.getName() + " is no static one", !Modifier.isStatic(method.getModifiers()));
        }
        Due.holds("methods are the document's: " + open, open.equals(new TreeSet<>(METHODS)));
        privateNames(WinnowedGuilt.class, names);
        for (Class<?> inside : WinnowedGuilt.class.getDeclaredClasses()) {
            privateNames(inside, names);
            Due.holds(inside.getName() + " is static", Modifier.isStatic(inside.getModifiers()));
            Due.holds(inside.getName() + " has at most 20 fields", inside.getDeclaredFields().length <= 20);
        }
        Due.holds("at most twelve classes", WinnowedGuilt.class.getDeclaredClasses().length + 1 <= 12);
    }

    private static void privateNames(Class<?> owner, Set<String> open) {
        for (Method method : owner.getDeclaredMethods()) {
            if (owner != WinnowedGuilt.class || Modifier.isPrivate(method.getModifiers())) {
                Due.holds(owner.getName() + "." + method.getName() + " has a name of its own",
                        !open.contains(method.getName()));
            }
            Due.holds(owner.getName() + "." + method.getName() + " takes at most seven",
                    method.getParameterCount() <= 7);
        }
    }

    private static void constants() throws IllegalAccessException {
        Set<String> open = new TreeSet<>();
        for (Field field : WinnowedGuilt.class.getDeclaredFields()) {
            if (Modifier.isStatic(field.getModifiers())) {
                Due.holds(field.getName() + " is final", Modifier.isFinal(field.getModifiers()));
            }
            if (!Modifier.isPrivate(field.getModifiers())) {
                Due.holds(field.getName() + " is public", Modifier.isPublic(field.getModifiers()));
                open.add(field.getName() + "=" + field.getInt(null));
            }
        }
        Due.holds("constants are the document's: " + open, open.equals(new TreeSet<>(CONSTANTS)));
    }

    private static void constructors() {
        Constructor<?>[] all = WinnowedGuilt.class.getDeclaredConstructors();
        Due.is("constructors", all.length, 1);
        Due.is("its parameters", all[0].getParameterCount(), 0);
        Due.holds("it is public", Modifier.isPublic(all[0].getModifiers()));
        Due.holds("the class is public", Modifier.isPublic(WinnowedGuilt.class.getModifiers()));
        Due.holds("the class is final", Modifier.isFinal(WinnowedGuilt.class.getModifiers()));
    }

    private static void rules() throws IOException {
        String source = Files.readString(Path.of("src/main/java/WinnowedGuilt.java"));
        Due.holds("the source has plain letters alone", source.chars().allMatch(letter -> letter < 128));
        String code = source.replaceAll("(?s)/\\*.*?\\*/", "").replaceAll("//[^\n]*", "");
        for (String pattern : RULED_OUT) {
            Due.holds("no '" + pattern + "' in the program", !Pattern.compile(pattern).matcher(code).find());
        }
    }

    public static void main(String[] args) throws IOException, IllegalAccessException {
        methods();
        constants();
        constructors();
        rules();
        Due.end();
    }
}
