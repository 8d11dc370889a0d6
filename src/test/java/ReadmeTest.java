import java.io.ByteArrayOutputStream;
import java.io.PrintStream;
import java.lang.reflect.Method;
import java.lang.reflect.Modifier;
import java.net.URL;
import java.net.URLClassLoader;
import java.nio.file.Files;
import java.nio.file.Path;
import java.util.regex.Matcher;
import java.util.regex.Pattern;
import javax.tools.ToolProvider;

/** README.md's example compiles and prints what stands behind it; each call is named there. */
public final class ReadmeTest {
    private static final Check CHECK = new Check();

    public static void main(String[] args) throws Exception {
        String readme = Files.readString(Path.of(args.length > 0 ? args[0] : "README.md"));
        String printed = run(block(readme, "java"));
        CHECK.due("README.md's example printed\n" + printed, printed.equals(block(readme, "text")) ? 1 : 0, 1);
        for (Method m : ShortcutDuty.class.getDeclaredMethods()) {
            if (Modifier.isPublic(m.getModifiers())) {
                CHECK.due("README.md names " + m.getName(), readme.contains("`" + m.getName() + "`") ? 1 : 0, 1);
            }
        }
        CHECK.close("ReadmeTest");
    }

    private static String block(String readme, String kind) {
        Matcher matcher = Pattern.compile("(?s)```" + kind + "\n(.*?)```").matcher(readme);
        return matcher.find() ? matcher.group(1) : "";
    }

    private static String run(String source) throws Exception {
        Path room = Files.createTempDirectory("readme");
        Path file = room.resolve("Example.java");
        Files.writeString(file, source);
        int failed = ToolProvider.getSystemJavaCompiler().run(null, null, null, "-cp",
                System.getProperty("java.class.path"), "-d", room.toString(), file.toString());
        CHECK.due("README.md's example compiles", failed, 0);
        String printed = failed == 0 ? printedBy(room) : "";
        for (String name : new String[] {"Example.class", "Example.java", ""}) {
            Files.deleteIfExists(room.resolve(name));
        }
        return printed;
    }

    private static String printedBy(Path room) throws Exception {
        PrintStream console = System.out;
        ByteArrayOutputStream printed = new ByteArrayOutputStream();
        try (URLClassLoader loader = new URLClassLoader(new URL[] {room.toUri().toURL()})) {
            Method main = loader.loadClass("Example").getMethod("main", String[].class);
            System.setOut(new PrintStream(printed, true));
            main.invoke(null, (Object) new String[0]);
        } finally {
            System.setOut(console);
        }
        return printed.toString().replace("\r\n", "\n");
    }
}
