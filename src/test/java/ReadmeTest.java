import java.io.ByteArrayOutputStream;
import java.io.PrintStream;
import java.lang.reflect.Method;
import java.lang.reflect.Modifier;
import java.net.URL;
import java.net.URLClassLoader;
import java.nio.charset.StandardCharsets;
import java.nio.file.DirectoryStream;
import java.nio.file.Files;
import java.nio.file.Path;
import java.util.regex.Matcher;
import java.util.regex.Pattern;
import javax.tools.ToolProvider;

/** README.md: its program prints what stands behind it, and it names each call and each test. */
public final class ReadmeTest {
    public static void main(String[] args) throws Exception {
        String page = Files.readString(Path.of("README.md"));
        String due = block(page, "text");
        String got = printed(block(page, "java"));
        Check.same("the program prints " + got + "due is " + due, true, due.equals(got));
        for (Method call : WingTrams.class.getDeclaredMethods()) {
            boolean face = Modifier.isPublic(call.getModifiers());
            Check.same("names " + call, true, !face || page.contains("`" + call.getName() + "`"));
        }
        try (DirectoryStream<Path> tests = Files.newDirectoryStream(Path.of("src/test/java"), "*Test.java")) {
            for (Path test : tests) {
                String name = test.getFileName().toString().replace(".java", "");
                Check.same("tells of " + name, true, page.contains("\n| " + name + " |"));
            }
        }
        Check.same("tells of .ci/run", true, page.contains("\n.ci/run\n"));
        Check.end();
    }

    /** The first block of a kind. */
    private static String block(String page, String kind) {
        Matcher block = Pattern.compile("(?s)\n```" + kind + "\n(.*?)```\n").matcher(page);
        return block.find() ? block.group(1) : "";
    }

    private static String printed(String program) throws Exception {
        Path folder = Files.createTempDirectory("readme");
        Path source = folder.resolve("Example.java");
        Path made = folder.resolve("Example.class");
        Files.writeString(source, program);
        int wrong = ToolProvider.getSystemJavaCompiler().run(null, null, null,
            "-cp", System.getProperty("java.class.path"), "-d", folder.toString(), source.toString());
        Check.same("compiles", 0, wrong);
        String text = wrong == 0 ? printedBy(folder) : "";
        Files.deleteIfExists(made);
        Files.delete(source);
        Files.delete(folder);
        return text;
    }

    private static String printedBy(Path folder) throws Exception {
        PrintStream before = System.out;
        ByteArrayOutputStream text = new ByteArrayOutputStream();
        try (URLClassLoader loader = new URLClassLoader(new URL[] {folder.toUri().toURL()})) {
            Method main = loader.loadClass("Example").getMethod("main", String[].class);
            System.setOut(new PrintStream(text, true, StandardCharsets.UTF_8));
            main.invoke(null, (Object) new String[0]);
        } finally {
            System.setOut(before);
        }
        return text.toString(StandardCharsets.UTF_8).replace("\r\n", "\n");
    }
}
