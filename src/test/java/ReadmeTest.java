import java.io.ByteArrayOutputStream;
import java.io.IOException;
import java.io.PrintStream;
import java.net.URL;
import java.net.URLClassLoader;
import java.nio.charset.StandardCharsets;
import java.nio.file.Files;
import java.nio.file.Path;
import java.util.List;
import java.util.regex.Matcher;
import java.util.regex.Pattern;
import java.util.stream.Stream;
import javax.tools.ToolProvider;

/** README.md: its example prints what stands behind the calls, and its table names every test. */
public final class ReadmeTest {
    private static final Check CHECK = new Check("ReadmeTest");
    // An answer ends where its meaning begins.
    private static final Pattern SAID = Pattern.compile("say\\((.*)\\); *// ([^:\n]+)");
    private static final Pattern STATEMENTS = Pattern.compile("`([a-z]+[a-z0-9 ]*;)`");

    public static void main(String[] args) throws IOException, ReflectiveOperationException {
        String page = Page.readme();
        example(Page.between(page, "```java\n", "```\n"));
        statements(Page.between(page, "| statement | declares |", "\n\n"));
        everyTestIsNamed(page);
        CHECK.finish();
    }

    private static void example(String source) throws IOException, ReflectiveOperationException {
        Path folder = Files.createTempDirectory("example");
        try {
            Path file = Files.writeString(folder.resolve("Example.java"), source);
            int code = ToolProvider.getSystemJavaCompiler().run(null, null, null, "-Xlint:all", "-Werror",
                    "-d", folder.toString(), Page.SOURCE.toString(), file.toString());
            CHECK.due("javac of the example", 0, code);
            if (code == 0) {
                compare(source, printed(folder));
            }
        } finally {
            remove(folder);
        }
    }

    /** What the example prints, compiled in this folder. */
    private static String[] printed(Path folder) throws IOException, ReflectiveOperationException {
        PrintStream console = System.out;
        ByteArrayOutputStream bytes = new ByteArrayOutputStream();
        URL[] path = {folder.toUri().toURL()};
        try (URLClassLoader loader = new URLClassLoader(path, ClassLoader.getPlatformClassLoader());
                PrintStream catcher = new PrintStream(bytes, true, StandardCharsets.UTF_8)) {
            System.setOut(catcher);
            loader.loadClass("Example").getMethod("main", String[].class).invoke(null, (Object) new String[0]);
        } finally {
            System.setOut(console);
        }
        return bytes.toString(StandardCharsets.UTF_8).split("\\R");
    }

    private static void compare(String source, String[] printed) {
        int line = 0;
        Matcher said = SAID.matcher(source);
        while (said.find()) {
            String got = line < printed.length ? printed[line] : "nothing";
            CHECK.due("README.md: " + said.group(1), said.group(2).trim(), got);
            line++;
        }
        CHECK.due("lines that the example prints", line, printed.length);
        CHECK.due("the example has answers", true, line > 0);
    }

    /** The statements of the table make up a market, in the order in which they stand. */
    private static void statements(String table) {
        StringBuilder text = new StringBuilder();
        Matcher statement = STATEMENTS.matcher(table);
        while (statement.find()) {
            text.append(statement.group(1)).append('\n');
        }
        ScaleInspection x = Text.market(text.toString());
        CHECK.due("traders of the table", 1, x.traderCount());
        CHECK.due("scales of the table", 1, x.scaleCount());
        CHECK.due("masses of the table", 3, x.massCount());
        CHECK.due("sets of the table", 2, x.setCount());
    }

    private static void everyTestIsNamed(String page) throws IOException {
        for (Path file : inside(Page.TESTS)) {
            String name = file.getFileName().toString().replace(".java", "");
            CHECK.due("README.md names " + name, true, page.contains("`" + name + "`"));
        }
    }

    private static List<Path> inside(Path folder) throws IOException {
        try (Stream<Path> files = Files.list(folder)) {
            return files.toList();
        }
    }

    private static void remove(Path folder) throws IOException {
        for (Path file : inside(folder)) {
            Files.delete(file);
        }
        Files.delete(folder);
    }
}
