import java.io.IOException;
import java.lang.reflect.Method;
import java.lang.reflect.Modifier;
import java.net.URL;
import java.net.URLClassLoader;
import java.nio.file.DirectoryStream;
import java.nio.file.Files;
import java.nio.file.Path;
import java.util.ArrayList;
import java.util.List;
import java.util.TreeSet;
import java.util.regex.Matcher;
import java.util.regex.Pattern;
import javax.tools.JavaCompiler;
import javax.tools.ToolProvider;

/**
 * README.md: its Java is compiled as it stands, and each call that it shows must answer what it tells.
 * It must show every call of the face and every refusal, and name every call and every test in its tables.
 */
public final class ReadmeTest {
    private static final Path PAGE = Path.of("README.md");
    private static final Path TESTS = Path.of("src/test/java");
    private static final Pattern SHOWN =
        Pattern.compile("(x\\.(\\w+)\\(.*\\)); +// (-?[0-9]+|throws [A-Za-z]+): .+");
    private static final String[] TOLD_REFUSALS = {"-1", "-2", "-3", "-4", "-11", "-12", "-13", "-14", "-15",
        "-1006", "-2003", "1000000001", "throws IllegalArgumentException", "throws IllegalStateException"};

    private final List<String> calls = new ArrayList<>();
    private final List<String> wanted = new ArrayList<>();
    private final TreeSet<String> names = new TreeSet<>();
    private final StringBuilder body = new StringBuilder();

    public static void main(String[] args) throws Exception {
        List<String> page = Files.readAllLines(PAGE);
        ReadmeTest test = new ReadmeTest();
        test.readBlocks(page);
        test.holdAnswers();
        test.holdAllShown();
        holdTables(String.join("\n", page));
        Check.end();
    }

    private void readBlocks(List<String> page) {
        boolean inBlock = false;
        for (String line : page) {
            if (line.startsWith("```")) {
                inBlock = line.equals("```java");
            } else if (inBlock) {
                readLine(line);
            }
        }
    }

    private void readLine(String line) {
        Matcher shown = SHOWN.matcher(line);
        if (shown.matches()) {
            calls.add(shown.group(1));
            names.add(shown.group(2));
            wanted.add(shown.group(3));
            body.append("try { answers.add(String.valueOf(").append(shown.group(1)).append(")); }\n")
                .append("catch (RuntimeException e) { answers.add(\"throws \" + e.getClass().getSimpleName()); }\n");
            return;
        }
        Check.due("a call without its answer: " + line, line.startsWith("x.") ? 1 : 0, 0);
        body.append(line).append('\n');
    }

    private void holdAnswers() throws Exception {
        List<?> answers = run();
        Check.due("answers of README.md", answers.size(), calls.size());
        for (int i = 0; i < answers.size(); i++) {
            Check.dueSame("README.md, call " + (i + 1) + ", " + calls.get(i), answers.get(i).toString(), wanted.get(i));
        }
    }

    /** Compiles what the page shows and makes all its calls. */
    private List<?> run() throws Exception {
        JavaCompiler javac = ToolProvider.getSystemJavaCompiler();
        Path room = Files.createTempDirectory("readme");
        try {
            Path source = room.resolve("Shown.java");
            Files.writeString(source, "public final class Shown {\n"
                + "public static java.util.List<String> answers() {\n"
                + "java.util.List<String> answers = new java.util.ArrayList<>();\n"
                + body + "return answers;\n}\n}\n");
            int compiled = javac.run(null, null, null, "-cp", System.getProperty("java.class.path"),
                "-d", room.toString(), source.toString());
            Check.due("README.md's Java compiles", compiled, 0);
            if (compiled != 0) {
                return new ArrayList<>();
            }
            try (URLClassLoader loader = new URLClassLoader(new URL[] {room.toUri().toURL()})) {
                return (List<?>) loader.loadClass("Shown").getMethod("answers").invoke(null);
            }
        } finally {
            for (Path file : filesOf(room)) {
                Files.delete(file);
            }
            Files.delete(room);
        }
    }

    private void holdAllShown() {
        Check.dueSame("the calls shown", names.toString(), face().toString());
        for (String refusal : TOLD_REFUSALS) {
            Check.due("README.md shows " + refusal, wanted.contains(refusal) ? 1 : 0, 1);
        }
    }

    private static void holdTables(String page) throws IOException {
        String allCalls = page.substring(page.indexOf("\n## All calls"), page.indexOf("\n## Tests"));
        for (String name : face()) {
            Check.due("the table of calls has " + name, allCalls.contains("`" + name + "(") ? 1 : 0, 1);
        }
        String allTests = page.substring(page.indexOf("\n## Tests"));
        for (Path file : filesOf(TESTS)) {
            String name = file.getFileName().toString();
            if (name.endsWith("Test.java")) {
                String row = "\n| `" + name.substring(0, name.length() - 5) + "` | ";
                Check.due("the table of tests has " + name, allTests.contains(row) ? 1 : 0, 1);
            }
        }
    }

    private static TreeSet<String> face() {
        TreeSet<String> all = new TreeSet<>();
        for (Method m : LetByTheBirds.class.getDeclaredMethods()) {
            if (Modifier.isPublic(m.getModifiers())) {
                all.add(m.getName());
            }
        }
        return all;
    }

    private static List<Path> filesOf(Path directory) throws IOException {
        List<Path> all = new ArrayList<>();
        try (DirectoryStream<Path> files = Files.newDirectoryStream(directory)) {
            for (Path file : files) {
                all.add(file);
            }
        }
        return all;
    }
}
