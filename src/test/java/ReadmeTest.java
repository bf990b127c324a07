import java.io.ByteArrayOutputStream;
import java.io.IOException;
import java.io.PrintStream;
import java.lang.reflect.Method;
import java.lang.reflect.Modifier;
import java.net.URL;
import java.net.URLClassLoader;
import java.nio.charset.StandardCharsets;
import java.nio.file.Files;
import java.nio.file.Path;
import java.util.regex.Matcher;
import java.util.regex.Pattern;
import javax.tools.ToolProvider;

/** The program that README.md shows compiles and prints what README.md says, and no call is missing there. */
public final class ReadmeTest {
    private static int wrong = 0;

    private ReadmeTest() {
    }

    private static void check(boolean holds, String told) {
        if (!holds) {
            wrong++;
            System.out.println(told);
        }
    }

    /** The first block of README.md that is marked so. */
    private static String block(String page, String mark) {
        Matcher found = Pattern.compile("(?s)\n```" + mark + "\n(.*?)```\n").matcher(page);
        return found.find() ? found.group(1) : "";
    }

    private static String printedBy(String source, Path folder) throws IOException, ReflectiveOperationException {
        Path file = Files.writeString(folder.resolve("Example.java"), source);
        int failed = ToolProvider.getSystemJavaCompiler().run(null, null, null, "-Xlint:all", "-Werror",
                "-cp", System.getProperty("java.class.path"), "-d", folder.toString(), file.toString());
        if (failed != 0) {
            return "not compiled";
        }
        PrintStream usual = System.out;
        ByteArrayOutputStream printed = new ByteArrayOutputStream();
        try (URLClassLoader loader = new URLClassLoader(new URL[] {folder.toUri().toURL()})) {
            System.setOut(new PrintStream(printed, true, StandardCharsets.UTF_8));
            loader.loadClass("Example").getMethod("main", String[].class).invoke(null, (Object) new String[0]);
        } finally {
            System.setOut(usual);
        }
        return printed.toString(StandardCharsets.UTF_8).replace(System.lineSeparator(), "\n");
    }

    private static void remove(Path folder) throws IOException {
        try (var files = Files.list(folder)) {
            for (Path file : files.toList()) {
                Files.delete(file);
            }
        }
        Files.delete(folder);
    }

    public static void main(String[] args) throws IOException, ReflectiveOperationException {
        String page = Files.readString(Path.of("README.md"));
        Path folder = Files.createTempDirectory("readme");
        try {
            String printed = printedBy(block(page, "java"), folder);
            check(printed.equals(block(page, "text")), "the program of README.md prints:\n" + printed);
        } finally {
            remove(folder);
        }
        String table = page.substring(page.indexOf("| group |"), page.indexOf("## Tests"));
        for (Method m : VendingRoutes.class.getDeclaredMethods()) {
            boolean isMissing = Modifier.isPublic(m.getModifiers()) && !table.contains("`" + m.getName() + "`");
            check(!isMissing, "README.md does not name " + m.getName());
        }
        System.out.println("README.md: " + wrong + " wrong");
        System.exit(wrong == 0 ? 0 : 1);
    }
}
