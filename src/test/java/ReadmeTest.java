import java.io.ByteArrayOutputStream;
import java.io.PrintStream;
import java.lang.reflect.Method;
import java.lang.reflect.Modifier;
import java.net.URL;
import java.net.URLClassLoader;
import java.nio.charset.StandardCharsets;
import java.nio.file.DirectoryStream;
import java.nio.file.Files;
import java.nio.file.Path;
import javax.tools.ToolProvider;

/** README.md: its example does what it says, and nothing of the face or of the tests is missing there. */
public final class ReadmeTest {
    private static final Due DUE = new Due();

    public static void main(String[] args) throws Exception {
        String page = Files.readString(Path.of("README.md"));
        example(page);
        calls(page);
        tests(page);
        DUE.finish();
    }

    private static String block(String page, String language) {
        String mark = "```" + language + "\n";
        int from = page.indexOf(mark);
        return from < 0 ? "" : page.substring(from + mark.length(), page.indexOf("```", from + mark.length()));
    }

    private static void example(String page) throws Exception {
        Path folder = Files.createTempDirectory("readme");
        Path source = folder.resolve("Example.java");
        Files.writeString(source, "public class Example { public static void main(String[] args) {\n"
            + block(page, "java") + "} }\n");
        int refused = ToolProvider.getSystemJavaCompiler().run(null, null, null,
            "-cp", System.getProperty("java.class.path"), "-d", folder.toString(), source.toString());
        DUE.is("compiling the example", refused, 0);
        if (refused == 0) {
            byte[] want = block(page, "text").getBytes(StandardCharsets.UTF_8);
            DUE.bytes("the example", printedBy(folder), want);
        }
        Files.deleteIfExists(folder.resolve("Example.class"));
        Files.delete(source);
        Files.delete(folder);
    }

    private static byte[] printedBy(Path folder) throws Exception {
        PrintStream before = System.out;
        ByteArrayOutputStream printed = new ByteArrayOutputStream();
        try (URLClassLoader loader = new URLClassLoader(new URL[] {folder.toUri().toURL()})) {
            System.setOut(new PrintStream(printed, true));
            loader.loadClass("Example").getMethod("main", String[].class).invoke(null, (Object) new String[0]);
        } finally {
            System.setOut(before);
        }
        return printed.toByteArray();
    }

    private static void calls(String page) {
        for (Method method : PacketTranslator.class.getDeclaredMethods()) {
            if (Modifier.isPublic(method.getModifiers())) {
                DUE.is("the page tells of " + method.getName(), page.contains("`" + method.getName() + "("), true);
            }
        }
    }

    private static void tests(String page) throws Exception {
        try (DirectoryStream<Path> files = Files.newDirectoryStream(Path.of("src/test/java"), "*Test.java")) {
            for (Path file : files) {
                String name = file.getFileName().toString().replace(".java", "");
                DUE.is("the page tells of " + name, page.contains("| `" + name + "` |"), true);
            }
        }
    }
}
