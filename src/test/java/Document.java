import java.io.IOException;
import java.nio.file.Files;
import java.nio.file.Path;
import java.util.ArrayList;
import java.util.HashMap;
import java.util.List;
import java.util.Map;
import java.util.regex.Matcher;
import java.util.regex.Pattern;

/** The document, so that tests can look up what it says. */
final class Document {
    private static final Path PLACE = Path.of("../shared/DOC.md");
    private static final String[] AHEAD = {"What it is", "The public face", "Terms"};

    /** By headings ("Terms", "Promise 1"). */
    private final Map<String, String> parts = new HashMap<>();

    private Document(String text) {
        Matcher part = Pattern.compile("(?ms)^## ([^:\\n]+)[^\\n]*$(.*?)(?=^## |\\z)").matcher(text);
        while (part.find()) {
            parts.put(part.group(1).trim(), part.group(2));
        }
    }

    static Document read() throws IOException {
        return new Document(Files.readString(PLACE));
    }

    private String part(String heading) {
        return parts.getOrDefault(heading, "");
    }

    /** Whether the words stand in the promise, or ahead of all promises, whatever their line ends. */
    boolean says(int promise, String words) {
        boolean said = part("Promise " + promise).replaceAll("\\s+", " ").contains(words);
        for (String heading : AHEAD) {
            said |= part(heading).replaceAll("\\s+", " ").contains(words);
        }
        return said;
    }

    /** The public face, a declaration each, in its order. */
    List<String> face() {
        return declarations(part("The public face"));
    }

    /** What a source declares as public inside its class, in its order. */
    static List<String> declarations(String source) {
        List<String> all = new ArrayList<>();
        Matcher declared = Pattern.compile("(?m)^ {4}(public .*?)( \\{|;)$").matcher(source);
        while (declared.find()) {
            all.add(declared.group(1));
        }
        return all;
    }

    /** What the interface says ahead of calls: "---- the floor" with "write, wipe, ..", and so on. */
    Map<String, String> headings() {
        Map<String, String> all = new HashMap<>();
        Matcher heading = Pattern.compile("Ahead of the calls (.*) the interface says: (---- .*)\\.").matcher(part("Terms"));
        while (heading.find()) {
            all.put(heading.group(2), heading.group(1).replace("`", ""));
        }
        return all;
    }
}
