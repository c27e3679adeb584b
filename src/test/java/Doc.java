import java.io.IOException;
import java.nio.file.Files;
import java.nio.file.Path;
import java.util.ArrayList;
import java.util.LinkedHashMap;
import java.util.List;
import java.util.Map;
import java.util.regex.Matcher;
import java.util.regex.Pattern;

/** The public face as the document writes it. Tests run in the project's directory. */
final class Doc {
    private static final Path DOC = Path.of("../shared/DOC.md");
    private static final Pattern HEADING = Pattern.compile("Ahead of the calls (.*) the interface says: ---- (.*)\\.");
    private static final Pattern METHOD = Pattern.compile("public \\w+ (\\w+)\\((.*?)\\)(?: throws (.*))?;");

    /** The constants, constructors and methods, in their order, a line each that ends with a semicolon. */
    static List<String> face() throws IOException {
        List<String> face = new ArrayList<>();
        for (String line : blocks(DOC).get(0)) {
            if (line.startsWith("    public ")) {
                face.add(line.trim());
            }
        }
        return face;
    }

    /** The methods, a matcher each: its name, its parameters with their types, its exceptions or null. */
    static List<Matcher> methods() throws IOException {
        List<Matcher> methods = new ArrayList<>();
        for (String line : face()) {
            Matcher method = METHOD.matcher(line);
            if (method.matches()) {
                methods.add(method);
            }
        }
        return methods;
    }

    /** For each heading of the face the names of the calls behind it. */
    static Map<String, List<String>> headings() throws IOException {
        Map<String, List<String>> headings = new LinkedHashMap<>();
        for (String line : Files.readAllLines(DOC)) {
            Matcher heading = HEADING.matcher(line);
            if (heading.matches()) {
                headings.put(heading.group(2), List.of(heading.group(1).replace("`", "").split(", ")));
            }
        }
        return headings;
    }

    /** The blocks of Java in a document, each by its lines. */
    static List<List<String>> blocks(Path document) throws IOException {
        List<List<String>> blocks = new ArrayList<>();
        boolean inside = false;
        for (String line : Files.readAllLines(document)) {
            if (line.startsWith("```")) {
                inside = line.equals("```java");
                if (inside) {
                    blocks.add(new ArrayList<>());
                }
            } else if (inside) {
                blocks.get(blocks.size() - 1).add(line);
            }
        }
        return blocks;
    }

    private Doc() {
    }
}
