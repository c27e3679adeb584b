import java.io.IOException;
import java.net.URL;
import java.net.URLClassLoader;
import java.nio.file.Files;
import java.nio.file.Path;
import java.util.ArrayList;
import java.util.List;
import java.util.function.Supplier;
import java.util.regex.Matcher;
import java.util.regex.Pattern;
import javax.tools.ToolProvider;

/** What README.md says: its example answers as it tells, and its list of calls is that of the document's face. */
public final class ReadmeTest {
    private static final Path README = Path.of("README.md");
    private static final String NAME = "ReadmeExample";
    /** A call behind which its answer is told, up to a comma; the call may be that of a new variable. */
    private static final Pattern TOLD = Pattern.compile("(?:\\w+ (\\w+) = )?(.*\\));\\s+// ([^,]*)(,.*)?");
    private static final Pattern ROW = Pattern.compile("\\| `(.*)` \\|.*\\|(.*)\\|");

    private static final Check check = new Check();

    public static void main(String[] args) throws IOException, ReflectiveOperationException {
        List<String> example = example();
        examplesAnswersAreAsTold(example);
        exampleMakesEachCall(example);
        listOfCallsIsTheFace();
        check.end();
    }

    private static List<String> example() throws IOException {
        List<List<String>> blocks = Doc.blocks(README);
        check.same("examples in README.md", blocks.size(), 1);
        return blocks.isEmpty() ? List.of() : blocks.get(0);
    }

    private static void examplesAnswersAreAsTold(List<String> example)
            throws IOException, ReflectiveOperationException {
        List<String> calls = new ArrayList<>();
        List<String> due = new ArrayList<>();
        for (String line : example) {
            Matcher told = TOLD.matcher(line);
            if (told.matches()) {
                calls.add(told.group(2));
                due.add(told.group(3).equals("NONE") ? String.valueOf(CoinRails.NONE) : told.group(3));
            } else {
                boolean tellsNothing = line.startsWith("//") || !line.contains("//");
                check.same("an answer can be read in: " + line, tellsNothing ? 1 : 0, 1);
            }
        }
        List<String> answers = answers(program(example));
        check.same("answers", answers.size(), due.size());
        for (int i = 0; i < answers.size() && i < due.size(); i++) {
            check.same("README.md, " + calls.get(i), answers.get(i), due.get(i));
        }
    }

    /** The example as a class that notes each answer that is told. */
    private static String program(List<String> example) {
        StringBuilder program = new StringBuilder();
        program.append("import java.util.*;\nimport java.util.function.Supplier;\n");
        program.append("public final class " + NAME + " implements Supplier<List<String>> {\n");
        program.append("public List<String> get() {\nList<String> answers = new ArrayList<>();\n");
        for (String line : example) {
            Matcher told = TOLD.matcher(line);
            program.append(told.matches() ? noted(line, told) : line).append('\n');
        }
        return program.append("return answers;\n}\n}\n").toString();
    }

    private static String noted(String line, Matcher told) {
        if (told.group(1) != null) {
            return line + "\nanswers.add(String.valueOf(" + told.group(1) + "));";
        }
        String noted = "answers.add(String.valueOf(" + told.group(2) + "));";
        if (told.group(3).startsWith("throws ")) {
            return "try { " + noted + " } catch (RuntimeException e) {"
                    + " answers.add(\"throws \" + e.getClass().getSimpleName()); }";
        }
        return noted;
    }

    private static List<String> answers(String program) throws IOException, ReflectiveOperationException {
        Path directory = Files.createTempDirectory("readme");
        Path source = directory.resolve(NAME + ".java");
        Path made = directory.resolve(NAME + ".class");
        try {
            Files.writeString(source, program);
            String classes = System.getProperty("java.class.path");
            int failed = ToolProvider.getSystemJavaCompiler().run(null, null, null,
                    "-cp", classes, "-d", directory.toString(), source.toString());
            check.same("README.md's example, compiled,", failed, 0);
            return failed == 0 ? run(directory) : List.of();
        } finally {
            Files.deleteIfExists(source);
            Files.deleteIfExists(made);
            Files.delete(directory);
        }
    }

    private static List<String> run(Path directory) throws IOException, ReflectiveOperationException {
        URL[] places = {directory.toUri().toURL()};
        try (URLClassLoader loader = new URLClassLoader(places, ReadmeTest.class.getClassLoader())) {
            Supplier<?> example = (Supplier<?>) loader.loadClass(NAME).getConstructor().newInstance();
            List<String> answers = new ArrayList<>();
            for (Object answer : (List<?>) example.get()) {
                answers.add(String.valueOf(answer));
            }
            return answers;
        }
    }

    private static void exampleMakesEachCall(List<String> example) throws IOException {
        String text = String.join("\n", example);
        for (Matcher method : Doc.methods()) {
            boolean called = text.contains("sorter." + method.group(1) + "(");
            check.same("README.md's example calls " + method.group(1), called ? 1 : 0, 1);
        }
    }

    private static void listOfCallsIsTheFace() throws IOException {
        List<String> due = new ArrayList<>();
        for (Matcher method : Doc.methods()) {
            String parameters = method.group(2).replaceAll("\\w+ (\\w+)", "$1");
            due.add(method.group(1) + "(" + parameters + ") throws " + inShort(method.group(3)));
        }
        List<String> listed = new ArrayList<>();
        for (String line : Files.readAllLines(README)) {
            Matcher row = ROW.matcher(line);
            if (row.matches()) {
                listed.add(row.group(1) + " throws " + row.group(2).trim());
            }
        }
        check.same("README.md's list of calls", String.join("\n  ", listed), String.join("\n  ", due));
    }

    private static String inShort(String exceptions) {
        return exceptions == null ? "" : exceptions.replace("IndexOutOfBoundsException", "index")
                .replace("IllegalArgumentException", "argument").replace("IllegalStateException", "state");
    }
}
