import java.io.ByteArrayOutputStream;
import java.io.PrintStream;
import java.net.URL;
import java.net.URLClassLoader;
import java.nio.file.Files;
import java.nio.file.Path;
import java.util.regex.Matcher;
import java.util.regex.Pattern;
import java.util.stream.Stream;
import javax.tools.ToolProvider;

/** README.md: each example compiles and prints what the page says that it prints, and each call is named there. */
public final class ReadmeTest {
    private static final String CLASS = "src/main/java/BusHandler.java";

    public static void main(String[] args) throws Exception {
        String page = Files.readString(Path.of("README.md"));
        examples(page);
        calls(page);
        tests(page);
        Check.end();
    }

    /** A block of Java, and the next block of text behind it. */
    private static void examples(String page) throws Exception {
        Pattern pair = Pattern.compile("```java\n(.*?)```.*?```text\n(.*?)```", Pattern.DOTALL);
        Matcher match = pair.matcher(page);
        int count = 0;
        while (match.find()) {
            count++;
            Check.due("the example " + count + " prints", printed(match.group(1)), match.group(2));
        }
        Check.due("examples", count, 2);
        Check.due("blocks of Java", page.split("```java\n", -1).length - 1, 2);
    }

    private static String printed(String source) throws Exception {
        Matcher name = Pattern.compile("public class (\\w+)").matcher(source);
        if (!name.find()) {
            return "no class";
        }
        Path place = Files.createTempDirectory("readme");
        Path file = place.resolve(name.group(1) + ".java");
        Files.writeString(file, source);
        int result = ToolProvider.getSystemJavaCompiler().run(null, null, null, "-d", place.toString(), CLASS,
            file.toString());
        String text = result == 0 ? printedByMain(place, name.group(1)) : "nothing, as it does not compile";
        remove(place);
        return text;
    }

    private static void remove(Path place) throws Exception {
        try (Stream<Path> files = Files.list(place)) {
            for (Path file : (Iterable<Path>) files::iterator) {
                Files.delete(file);
            }
        }
        Files.delete(place);
    }

    private static String printedByMain(Path place, String name) throws Exception {
        PrintStream before = System.out;
        ByteArrayOutputStream text = new ByteArrayOutputStream();
        URL[] urls = {place.toUri().toURL()};
        try (URLClassLoader loader = new URLClassLoader(urls, null)) {
            System.setOut(new PrintStream(text, true));
            loader.loadClass(name).getMethod("main", String[].class).invoke(null, (Object) new String[0]);
        } finally {
            System.setOut(before);
        }
        return text.toString().replace(System.lineSeparator(), "\n");
    }

    /** With its parameters, as the document's signature names them. */
    private static void calls(String page) throws Exception {
        Pattern signature = Pattern.compile("^    public \\w+ (\\w+)\\((.*)\\)( throws .*)?;$");
        int count = 0;
        for (String line : Files.readAllLines(Path.of("../shared/DOC.md"))) {
            Matcher match = signature.matcher(line);
            if (match.matches()) {
                count++;
                String call = match.group(1) + "(" + match.group(2).replaceAll("\\w+ (\\w+)", "$1") + ")";
                Check.due("README.md tells " + call, page.contains("`" + call + "`"), true);
            }
        }
        Check.due("calls", count, 60);
    }

    private static void tests(String page) throws Exception {
        try (Stream<Path> files = Files.list(Path.of("src/test/java"))) {
            for (Path file : (Iterable<Path>) files::iterator) {
                String name = file.getFileName().toString().replace(".java", "");
                boolean isTold = page.contains("| `" + name + "` |") || name.equals("Check");
                Check.due("README.md tells of " + name, isTold, true);
            }
        }
    }
}
