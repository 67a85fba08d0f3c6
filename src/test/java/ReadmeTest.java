import java.io.ByteArrayOutputStream;
import java.io.IOException;
import java.io.PrintStream;
import java.net.URL;
import java.net.URLClassLoader;
import java.nio.charset.StandardCharsets;
import java.nio.file.Files;
import java.nio.file.Path;
import java.util.ArrayList;
import java.util.List;
import java.util.regex.Matcher;
import java.util.regex.Pattern;
import java.util.stream.Stream;
import javax.tools.ToolProvider;

/** What README.md shows is so: its example, and the names of the calls and of the tests. */
public final class ReadmeTest {
    private static int checks = 0;
    private static int wrong = 0;

    private static void check(boolean isRight, String what) {
        checks++;
        if (!isRight) {
            wrong++;
            System.out.println("ReadmeTest: " + what);
        }
    }

    public static void main(String[] args) throws Exception {
        Path file = Path.of(System.getProperty("readme"));
        String readme = Files.readString(file);
        calls(readme, Files.readString(Path.of(System.getProperty("doc"))));
        tests(readme, file.toAbsolutePath().resolveSibling("src/test/java"));
        example(readme);
        System.out.println("ReadmeTest: " + checks + " checks, " + wrong + " wrong");
        if (wrong != 0) {
            System.exit(1);
        }
    }

    /** Each call of the document's face is named, with its parameters, and no other one in the table. */
    private static void calls(String readme, String doc) {
        List<String> due = new ArrayList<>();
        Matcher m = Pattern.compile("(?m)^    public (?:int|long|boolean) (\\w+\\(.*?\\))").matcher(doc);
        while (m.find()) {
            due.add(m.group(1).replaceAll("(int|long|boolean) (\\w+[,)])", "$2"));
        }
        check(due.size() == 43, "the document's face has " + due.size() + " methods");
        List<String> named = new ArrayList<>();
        Matcher rows = Pattern.compile("(?m)^\\| (`.*`) \\| .* \\|$").matcher(readme);
        while (rows.find()) {
            named.addAll(List.of(rows.group(1).replaceAll("^`|`$", "").split("`, `")));
        }
        for (String call : due) {
            check(named.contains(call), "README.md does not name " + call);
        }
        for (String call : named) {
            check(due.contains(call), "the document does not have " + call);
        }
    }

    private static void tests(String readme, Path folder) throws IOException {
        List<Path> files = new ArrayList<>();
        try (Stream<Path> all = Files.list(folder)) {
            all.forEach(files::add);
        }
        check(!files.isEmpty(), "there are no tests in " + folder);
        for (Path file : files) {
            String name = file.getFileName().toString().replace(".java", "");
            check(readme.contains("- `" + name + "`: "), "README.md does not tell of " + name);
        }
    }

    /** The example prints what stands in the comments behind its lines. */
    private static void example(String readme) throws Exception {
        Matcher block = Pattern.compile("(?s)```java\n(.*?)```").matcher(readme);
        check(block.find(), "README.md has no example");
        String code = block.group(1);
        List<String> due = new ArrayList<>();
        Matcher m = Pattern.compile("(?m)System\\.out\\.println\\(.*\\);( +// (.*))?$").matcher(code);
        while (m.find()) {
            check(m.group(2) != null, "no answer stands behind " + m.group());
            due.add(m.group(2));
        }
        check(!due.isEmpty(), "the example prints nothing");
        List<String> got = List.of(output(code).split("\n"));
        check(got.equals(due), "the example prints " + got + ", README.md says " + due);
    }

    private static String output(String code) throws Exception {
        Path folder = Files.createTempDirectory("readme");
        Path file = folder.resolve("Example.java");
        Files.writeString(file, code);
        int result = ToolProvider.getSystemJavaCompiler().run(null, null, null, "-Xlint:all", "-Werror", "-d",
            folder.toString(), System.getProperty("source"), file.toString());
        check(result == 0, "the example is not compiled");
        PrintStream before = System.out;
        ByteArrayOutputStream printed = new ByteArrayOutputStream();
        try (URLClassLoader loader = new URLClassLoader(new URL[] {folder.toUri().toURL()}, null)) {
            System.setOut(new PrintStream(printed, true, StandardCharsets.UTF_8));
            loader.loadClass("Example").getMethod("main", String[].class).invoke(null, (Object) new String[0]);
        } finally {
            System.setOut(before);
            delete(folder);
        }
        return printed.toString(StandardCharsets.UTF_8).replace("\r", "");
    }

    private static void delete(Path folder) throws IOException {
        List<Path> files = new ArrayList<>();
        try (Stream<Path> all = Files.list(folder)) {
            all.forEach(files::add);
        }
        for (Path file : files) {
            Files.delete(file);
        }
        Files.delete(folder);
    }
}
