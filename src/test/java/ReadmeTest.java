import java.io.IOException;
import java.lang.reflect.Method;
import java.lang.reflect.Modifier;
import java.net.URL;
import java.net.URLClassLoader;
import java.nio.file.Files;
import java.nio.file.Path;
import java.util.ArrayList;
import java.util.List;
import java.util.concurrent.Callable;
import java.util.regex.Matcher;
import java.util.regex.Pattern;
import java.util.stream.Stream;
import javax.tools.ToolProvider;

/**
 * Does the calls that README.md shows and finds the answers that it tells: its rows of Java are put into a class, which
 * is compiled and run, so that they are Java too. Its table of all calls is held against the face.
 */
public final class ReadmeTest {
    private static final Pattern BLOCK = Pattern.compile("```java\n(.*?)```", Pattern.DOTALL);
    private static final Pattern ASKED =
            Pattern.compile("((?:peace\\.|tell\\().*\\)); // (throws \\w+|-?\\d+|true|false)(?:[:,] .*)?");
    /** Rows that have no answer: all others must tell one. */
    private static final Pattern UNASKED = Pattern.compile(
            "SwordPeace peace = new SwordPeace\\(\\);|peace\\.(forget|image)\\(\\);|String city = \".*| +\\+ \".*");
    private static final int MOST_CALLS = 512;

    private final List<String> calls = new ArrayList<>();
    private final List<String> due = new ArrayList<>();
    private final StringBuilder methods = new StringBuilder();
    private final StringBuilder body = new StringBuilder();

    public static void main(String[] args) throws Exception {
        String readme = Files.readString(Path.of("README.md"));
        ReadmeTest test = new ReadmeTest();
        test.read(readme);
        test.compare(answers(test.source()));
        test.allAreShown();
        table(readme);
        Check.end("ReadmeTest");
    }

    private void read(String readme) {
        Matcher blocks = BLOCK.matcher(readme);
        while (blocks.find()) {
            String block = blocks.group(1);
            if (block.startsWith("static ")) {
                methods.append(block);
            } else {
                block.lines().forEach(this::readRow);
            }
        }
        Check.due("rows with answers are in README.md", due.size() > 80, true);
        Check.due("an object does the rows in its 512 calls", due.size() + 50 <= MOST_CALLS, true);
    }

    private void readRow(String row) {
        Matcher asked = ASKED.matcher(row);
        if (asked.matches()) {
            calls.add(asked.group(1));
            due.add(asked.group(2));
            body.append("try { got.add(String.valueOf(").append(asked.group(1)).append(")); }\n");
            body.append("catch (RuntimeException e) { got.add(\"throws \" + e.getClass().getSimpleName()); }\n");
        } else {
            Check.due("README.md tells what is answered by <" + row + ">", UNASKED.matcher(row).matches(), true);
            body.append(row).append('\n');
        }
    }

    private String source() {
        return "import java.util.*;\n"
                + "public class ReadmeRows implements java.util.concurrent.Callable<List<String>> {\n" + methods
                + "public List<String> call() {\nList<String> got = new ArrayList<>();\n" + body + "return got;\n}\n}\n";
    }

    private static List<String> answers(String source) throws Exception {
        Path dir = Files.createTempDirectory("readme");
        try {
            Path file = Files.writeString(dir.resolve("ReadmeRows.java"), source);
            int wrong = ToolProvider.getSystemJavaCompiler().run(null, null, null, "-cp",
                    System.getProperty("java.class.path"), "-d", dir.toString(), file.toString());
            Check.due("README.md's rows are Java", wrong, 0);
            return wrong == 0 ? run(dir) : List.of();
        } finally {
            remove(dir);
        }
    }

    @SuppressWarnings("unchecked")
    private static List<String> run(Path dir) throws Exception {
        try (URLClassLoader loader = new URLClassLoader(new URL[] {dir.toUri().toURL()})) {
            return ((Callable<List<String>>) loader.loadClass("ReadmeRows").getConstructor().newInstance()).call();
        }
    }

    private static void remove(Path dir) throws IOException {
        try (Stream<Path> files = Files.list(dir)) {
            for (Path file : files.toList()) {
                Files.delete(file);
            }
        }
        Files.delete(dir);
    }

    private void compare(List<String> got) {
        Check.due("README.md's answers", got.size(), due.size());
        for (int i = 0; i < due.size() && i < got.size(); i++) {
            Check.due("README.md's row " + i + ", " + calls.get(i) + ", is told " + due.get(i) + ", not " + got.get(i),
                    got.get(i).equals(due.get(i)), true);
        }
    }

    private static List<Method> face() {
        return Stream.of(SwordPeace.class.getDeclaredMethods()).filter(m -> Modifier.isPublic(m.getModifiers())).toList();
    }

    private void allAreShown() {
        for (Method m : face()) {
            Check.due("README.md shows " + m.getName(), body.indexOf("peace." + m.getName() + "(") >= 0, true);
        }
    }

    /** Each call has one row of four columns, with its parameters, and what it throws in the last one. */
    private static void table(String readme) {
        for (Method m : face()) {
            Pattern start = Pattern.compile("\\| `" + m.getName() + "\\(([^)]*)\\)` \\|(.*)\\|(.*)\\|(.*)\\|");
            List<String> rows = readme.lines().filter(r -> start.matcher(r).matches()).toList();
            Check.due("rows of the table for " + m.getName(), rows.size(), 1);
            for (String row : rows) {
                Matcher told = start.matcher(row);
                told.matches();
                int parameters = told.group(1).isEmpty() ? 0 : told.group(1).split(", ").length;
                Check.due("parameters of " + m.getName(), parameters, m.getParameterCount());
                Check.due(m.getName() + " throws", told.group(4).strip().equals(thrown(m)), true);
                boolean answers = m.getReturnType() != void.class;
                Check.due(m.getName() + " answers", told.group(2).isBlank(), !answers);
            }
        }
    }

    private static String thrown(Method m) {
        List<String> names = Stream.of(m.getExceptionTypes()).map(Class::getSimpleName).toList();
        return names.isEmpty() ? "nothing" : String.join(", ", names);
    }
}
