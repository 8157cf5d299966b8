import java.lang.reflect.Method;
import java.lang.reflect.Modifier;
import java.net.URL;
import java.net.URLClassLoader;
import java.nio.file.Files;
import java.nio.file.Path;
import java.util.List;
import java.util.regex.Matcher;
import java.util.regex.Pattern;
import java.util.stream.Stream;
import javax.tools.JavaCompiler;
import javax.tools.ToolProvider;

/** README.md as it stands: its examples answer what is written behind them. Run in the project's folder. */
public final class ReadmeTest {
    private static final Pattern BLOCK = Pattern.compile("(?s)```java\n(.*?)```");
    private static final Pattern ANSWER = Pattern.compile("(?m)^(\\w+ (\\w+) = .*\\bx\\..*;)\\s*// (true|false|-?[\\d.]*\\d)");

    public static void main(String[] args) throws Exception {
        String page = Files.readString(Path.of("README.md"));
        examples(page);
        calls(page);
        tests(page);
        Check.finish();
    }

    private static void examples(String page) throws Exception {
        StringBuilder code = new StringBuilder();
        Matcher block = BLOCK.matcher(page);
        while (block.find()) {
            code.append(block.group(1));
        }
        Matcher answer = ANSWER.matcher(code.toString());
        Check.due("examples with an answer", answer.results().count() >= 20, true);
        // a line keeps its end as a comment, behind a look at what it answered
        String looked = answer.replaceAll("$1 ReadmeTest.look(\"$2 \" + $2, $2 == $3); //");
        run("public final class Example {\n    public static void main(String[] args) {\n" + looked + "\n    }\n}\n");
    }

    /** Public, since the examples are loaded apart from the tests. */
    public static void look(String answered, boolean isDue) {
        Check.due("README.md: " + answered, isDue, true);
    }

    private static void run(String source) throws Exception {
        Path folder = Files.createTempDirectory("readme");
        Path file = folder.resolve("Example.java");
        Files.writeString(file, source);
        JavaCompiler compiler = ToolProvider.getSystemJavaCompiler();
        String classes = System.getProperty("java.class.path");
        int code = compiler.run(null, null, null, "-cp", classes, "-d", folder.toString(), file.toString());
        Check.due("the examples of README.md compile", code, 0);
        if (code == 0) {
            try (URLClassLoader loader = new URLClassLoader(new URL[] { folder.toUri().toURL() })) {
                loader.loadClass("Example").getMethod("main", String[].class).invoke(null, (Object) new String[0]);
            }
        }
        try (Stream<Path> made = Files.walk(folder)) {
            made.sorted(java.util.Comparator.reverseOrder()).forEach(path -> path.toFile().delete());
        }
    }

    private static void calls(String page) {
        for (Method m : ExitFalls.class.getDeclaredMethods()) {
            if (Modifier.isPublic(m.getModifiers())) {
                Check.due("README.md names " + m.getName(), page.contains("`" + m.getName() + "`"), true);
            }
        }
    }

    private static void tests(String page) throws Exception {
        List<String> files;
        try (Stream<Path> all = Files.list(Path.of("src/test/java"))) {
            files = all.map(path -> path.getFileName().toString()).filter(name -> name.endsWith("Test.java")).toList();
        }
        for (String name : files) {
            Check.due("README.md names " + name, page.contains("\n| " + name.replace(".java", "") + " |"), true);
        }
        Matcher row = Pattern.compile("(?m)^\\| (\\w+Test) \\|").matcher(page);
        while (row.find()) {
            Check.due("there is " + row.group(1), files.contains(row.group(1) + ".java"), true);
        }
    }
}
