import java.io.ByteArrayOutputStream;
import java.io.PrintStream;
import java.lang.reflect.Method;
import java.lang.reflect.Modifier;
import java.net.URL;
import java.net.URLClassLoader;
import java.nio.charset.StandardCharsets;
import java.nio.file.Files;
import java.nio.file.Path;
import javax.tools.ToolProvider;

/** README.md is true: its example does what the page says, its lines of texts are right, and it names every call. */
final class ReadmeTest {
    private static final String JAVA = "```java\n";
    private static final String TEXT = "```text\n";
    private static final int GAP = 2;

    public static void main(String[] args) throws Exception {
        String page = Files.readString(Path.of("README.md"));
        example(block(page, JAVA), block(page, TEXT));
        linesOfTexts(page);
        everyCall(page);
        Check.finish();
    }

    private static String block(String page, String begin) {
        int at = page.indexOf(begin) + begin.length();
        return page.substring(at, page.indexOf("```", at));
    }

    private static void example(String source, String prints) throws Exception {
        Path folder = Files.createTempDirectory("readme");
        Path file = folder.resolve("Example.java");
        Files.writeString(file, source);
        int failed = ToolProvider.getSystemJavaCompiler().run(null, null, null, "-d", folder.toString(), "-cp",
                System.getProperty("java.class.path"), file.toString());
        Check.due("the example compiles", failed, 0);
        if (failed == 0) {
            String got = printed(folder);
            Check.due("the example prints\n" + got, got.equals(prints), true);
        }
        Files.deleteIfExists(folder.resolve("Example.class"));
        Files.delete(file);
        Files.delete(folder);
    }

    private static String printed(Path folder) throws Exception {
        ByteArrayOutputStream bytes = new ByteArrayOutputStream();
        PrintStream before = System.out;
        try (URLClassLoader loader = new URLClassLoader(new URL[] {folder.toUri().toURL()})) {
            Method main = loader.loadClass("Example").getMethod("main", String[].class);
            System.setOut(new PrintStream(bytes, true, StandardCharsets.UTF_8));
            main.invoke(null, (Object) new String[0]);
        } finally {
            System.setOut(before);
        }
        return bytes.toString(StandardCharsets.UTF_8).replace(System.lineSeparator(), "\n");
    }

    /** A line of a text stands four blanks in, and what it tells stands behind a gap. */
    private static void linesOfTexts(String page) {
        int lines = 0;
        for (String line : page.substring(0, page.indexOf(JAVA)).split("\n")) {
            if (line.startsWith("    ")) {
                String text = line.trim();
                int gap = text.indexOf(" ".repeat(GAP));
                String told = gap < 0 ? text : text.substring(0, gap);
                ArchEnds x = new ArchEnds();
                Check.tape(x, told);
                Check.due(told, (told.startsWith("cost") ? x.law() : x.county()) > 0, true);
                lines++;
            }
        }
        Check.due("lines of texts", lines, 5);
    }

    private static void everyCall(String page) {
        String calls = page.substring(page.indexOf("### What the calls are for"), page.indexOf("### A wrong text"));
        for (Method m : ArchEnds.class.getDeclaredMethods()) {
            if (Modifier.isPublic(m.getModifiers())) {
                Check.due("the page names " + m.getName(), calls.contains("`" + m.getName() + "`"), true);
            }
        }
    }
}
