import java.io.IOException;
import java.lang.reflect.Method;
import java.lang.reflect.Modifier;
import java.net.URL;
import java.net.URLClassLoader;
import java.nio.file.Files;
import java.nio.file.Path;
import java.util.ArrayList;
import java.util.List;
import java.util.regex.Matcher;
import java.util.regex.Pattern;
import javax.tools.JavaCompiler;
import javax.tools.ToolProvider;

/** The examples of README.md are compiled and run as they stand there, and must answer what stands behind them. */
public final class ReadmeTest {
    private static final Pattern BLOCK = Pattern.compile("```java\n(.*?)```", Pattern.DOTALL);
    private static final Pattern ASKED = Pattern.compile("(?m)^(x\\..*);\\s*// (-?\\d+|true|false)\\b.*$");
    private static final Pattern CALL_WITHOUT_ANSWER = Pattern.compile("(?m)^x\\.");

    private ReadmeTest() {
    }

    public static void main(String[] args) throws IOException, ReflectiveOperationException {
        String readme = Files.readString(Path.of("README.md"));
        everyCallIsNamed(readme);
        everyTestIsNamed(readme);
        List<String> examples = new ArrayList<>();
        StringBuilder helpers = new StringBuilder();
        Matcher blocks = BLOCK.matcher(readme);
        while (blocks.find()) {
            if (blocks.group(1).startsWith("static ")) {
                helpers.append(blocks.group(1));
            } else {
                examples.add(blocks.group(1));
            }
        }
        Check.due("examples", examples.size(), 2);
        for (int i = 0; i < examples.size(); i++) {
            runExample("Readme" + i, helpers.toString(), examples.get(i));
        }
        Check.end("ReadmeTest");
    }

    private static void everyCallIsNamed(String readme) {
        for (Method m : SnapWed.class.getDeclaredMethods()) {
            if (Modifier.isPublic(m.getModifiers())) {
                Pattern named = Pattern.compile("`" + m.getName() + "[`(]");
                Check.due("README.md names " + m.getName(), named.matcher(readme).find(), true);
            }
        }
    }

    private static void everyTestIsNamed(String readme) {
        for (String file : Path.of("src/test/java").toFile().list()) {
            if (file.endsWith("Test.java")) {
                String test = file.substring(0, file.length() - ".java".length());
                Check.due("README.md names " + test, readme.contains("| `" + test + "` |"), true);
            }
        }
    }

    private static void runExample(String name, String helpers, String body) throws IOException,
            ReflectiveOperationException {
        String asking = ASKED.matcher(body).replaceAll("due(\"$1\", $1, $2);");
        Check.due("all calls of " + name + " have an answer", CALL_WITHOUT_ANSWER.matcher(asking).find(), false);
        String source = "public final class " + name + " {\n"
                + "static int asked; static StringBuilder wrong = new StringBuilder();\n"
                + "static void due(String call, Object got, Object want) {\n"
                + "asked++; if (!got.equals(want)) wrong.append(call + \" answered \" + got + \", not \" + want + '\\n'); }\n"
                + helpers + "public static String run() {\n" + asking + "return asked == 0 ? \"nothing\" : wrong.toString(); }\n}\n";
        Path folder = Files.createTempDirectory("readme");
        Path file = folder.resolve(name + ".java");
        Files.writeString(file, source);
        JavaCompiler compiler = ToolProvider.getSystemJavaCompiler();
        String classes = System.getProperty("java.class.path");
        int compiled = compiler.run(null, null, null, "-cp", classes, "-d", folder.toString(), file.toString());
        Check.due(name + " compiles", compiled, 0);
        if (compiled == 0) {
            try (URLClassLoader loader = new URLClassLoader(new URL[] {folder.toUri().toURL()})) {
                Object wrong = loader.loadClass(name).getMethod("run").invoke(null);
                System.out.print(wrong);
                Check.due("answers of " + name + " that are wrong: " + wrong, "".equals(wrong), true);
            }
        }
        for (String left : folder.toFile().list()) {
            Files.delete(folder.resolve(left));
        }
        Files.delete(folder);
    }
}
