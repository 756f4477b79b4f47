import java.io.ByteArrayOutputStream;
import java.io.File;
import java.io.PrintStream;
import java.lang.reflect.Method;
import java.lang.reflect.Modifier;
import java.net.URL;
import java.net.URLClassLoader;
import java.nio.charset.StandardCharsets;
import java.nio.file.Files;
import java.nio.file.Path;
import java.util.regex.Matcher;
import java.util.regex.Pattern;
import java.util.spi.ToolProvider;

/** README.md: its program can be run as it stands, prints what it says, and every call of the face is named. */
public final class ReadmeTest {
    public static void main(String[] args) throws Exception {
        String readme = Files.readString(Path.of("README.md"));
        String printed = run(block(readme, "java"));
        Check.due("README.md's program prints\n" + printed, printed.equals(block(readme, "text")), true);
        for (Method m : TwoWeavers.class.getDeclaredMethods()) {
            if (Modifier.isPublic(m.getModifiers())) {
                Check.due("README.md names " + m.getName(), readme.matches("(?s).*`" + m.getName() + "(\\(\\))?`.*"), true);
            }
        }
        Check.due("README.md says how to run the tests", readme.contains("\n    .ci/run\n"), true);
        Check.end();
    }

    private static String block(String readme, String sort) {
        Matcher m = Pattern.compile("```" + sort + "\n(.*?)```", Pattern.DOTALL).matcher(readme);
        return m.find() ? m.group(1) : "";
    }

    private static String run(String program) throws Exception {
        Path folder = Files.createTempDirectory("readme");
        Path source = folder.resolve("Example.java");
        Files.writeString(source, program);
        File own = new File(TwoWeavers.class.getProtectionDomain().getCodeSource().getLocation().toURI());
        int failed = ToolProvider.findFirst("javac").orElseThrow().run(System.out, System.out,
            "-d", folder.toString(), "-cp", own.getPath(), source.toString());
        Check.due("javac of README.md's program", failed, 0);
        PrintStream before = System.out;
        ByteArrayOutputStream printed = new ByteArrayOutputStream();
        try (URLClassLoader loader = new URLClassLoader(new URL[] {folder.toUri().toURL()})) {
            System.setOut(new PrintStream(printed, true, StandardCharsets.UTF_8));
            loader.loadClass("Example").getMethod("main", String[].class).invoke(null, (Object) new String[0]);
        } finally {
            System.setOut(before);
            remove(folder);
        }
        return printed.toString(StandardCharsets.UTF_8).replace("\r\n", "\n");
    }

    private static void remove(Path folder) {
        File[] files = folder.toFile().listFiles();
        for (File file : files == null ? new File[0] : files) {
            file.delete();
        }
        folder.toFile().delete();
    }
}
