import java.io.IOException;
import java.lang.reflect.Method;
import java.net.URISyntaxException;
import java.net.URL;
import java.net.URLClassLoader;
import java.nio.file.Files;
import java.nio.file.Path;
import java.util.Set;
import java.util.TreeSet;
import java.util.regex.Matcher;
import java.util.regex.Pattern;
import javax.tools.ToolProvider;

/** Runs the lines of README.md, one behind the other, and holds what they answer against what stands behind them. */
public final class ReadmeTest {
    /** A call (group 3, its name 4), the name of what it answers (2), and what that is, or what it throws (5). */
    private static final Pattern CALL = Pattern.compile(
            "(int (\\w+) = )?(x\\.(\\w+)\\(.*\\)); +// (-?\\d+\\.\\d|-?\\d+|true|false|\\w+Exception)(:.*)?");
    private static final String MAKING = "UnwindTower x = new UnwindTower();";
    private static final int CALLS = 512;
    private static final int NOT_COMPILED = 1000;

    private ReadmeTest() {
    }

    public static void main(String[] args) throws IOException, ReflectiveOperationException, URISyntaxException {
        Check.about("README.md");
        StringBuilder body = new StringBuilder();
        Set<String> names = new TreeSet<>();
        int calls = 0;
        boolean isCode = false;
        for (String line : Files.readAllLines(Path.of("README.md"))) {
            Matcher call = CALL.matcher(line);
            if (line.startsWith("```")) {
                isCode = line.equals("```java");
            } else if (isCode && call.matches()) {
                calls++;
                names.add(call.group(4));
                body.append(checked(call));
            } else if (isCode) {
                Check.same(line, line.equals(MAKING), true);
                body.append(line).append('\n');
            }
        }
        Check.same("calls of one object: " + calls, calls > 0 && calls <= CALLS, true);
        for (Method method : UnwindTower.class.getMethods()) {
            if (method.getDeclaringClass() == UnwindTower.class) {
                Check.same(method.getName() + " is among them", names.contains(method.getName()), true);
            }
        }
        Check.same("lines that are wrong", wrongLines(body.toString()), 0);
        Check.end();
    }

    /** The same call as a line of a test. */
    private static String checked(Matcher call) {
        String asked = call.group(3);
        String text = "\"" + asked + "\", ";
        String due = call.group(5);
        if (due.endsWith("Exception")) {
            return "Check.fails(" + text + "() -> " + asked + ", " + due + ".class);\n";
        }
        String number = due.matches("-?\\d+") ? due + "L" : due;
        if (call.group(1) == null) {
            return "Check.same(" + text + asked + ", " + number + ");\n";
        }
        return call.group(1) + asked + ";\nCheck.same(" + text + call.group(2) + ", " + number + ");\n";
    }

    private static int wrongLines(String body) throws IOException, ReflectiveOperationException, URISyntaxException {
        Path tests = Path.of(ReadmeTest.class.getProtectionDomain().getCodeSource().getLocation().toURI());
        Path folder = Files.createTempDirectory("readme");
        Path source = folder.resolve("ReadmeLines.java");
        Path compiled = folder.resolve("ReadmeLines.class");
        try {
            Files.writeString(source, "public class ReadmeLines {\npublic static int run() {\n"
                    + "Check.about(\"README.md\");\n" + body + "return Check.wrong();\n}\n}\n");
            int failed = ToolProvider.getSystemJavaCompiler().run(null, null, null, "-d", folder.toString(),
                    "-cp", tests.toString(), source.toString());
            return failed == 0 ? runApart(folder.toUri().toURL(), tests.toUri().toURL()) : NOT_COMPILED;
        } finally {
            Files.deleteIfExists(source);
            Files.deleteIfExists(compiled);
            Files.deleteIfExists(folder);
        }
    }

    /** The classes of the tests are loaded anew, since the lines can see only what their own loader has loaded. */
    private static int runApart(URL... folders) throws IOException, ReflectiveOperationException {
        try (URLClassLoader loader = new URLClassLoader(folders, ClassLoader.getPlatformClassLoader())) {
            return (Integer) loader.loadClass("ReadmeLines").getMethod("run").invoke(null);
        }
    }
}
