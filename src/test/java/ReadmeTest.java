import java.net.URL;
import java.net.URLClassLoader;
import java.nio.file.Files;
import java.nio.file.Path;
import java.util.regex.Matcher;
import java.util.regex.Pattern;
import javax.tools.ToolProvider;

/** Compiles the Java of README.md as it stands there, runs it, and looks at each answer its comments tell. */
public final class ReadmeTest {
    private static final Pattern BLOCK = Pattern.compile("```java\n(.*?)```", Pattern.DOTALL);
    private static final Pattern TOLD = Pattern.compile("(?m)^(land\\..*?);\\s*// (-?\\d+)(:.*)?$");

    public static void main(String[] args) throws Exception {
        Check.about("README.md");
        String readme = Files.readString(Path.of("README.md"));
        Path out = Files.createTempDirectory("readme");
        Path source = out.resolve("ReadmeRows.java");
        Files.writeString(source, program(readme));
        out.toFile().deleteOnExit();
        int compiled = ToolProvider.getSystemJavaCompiler().run(null, null, null, "-cp",
            System.getProperty("java.class.path"), "-d", out.toString(), source.toString());
        Check.same("javac", compiled, 0);
        if (compiled == 0) {
            try (URLClassLoader loader = new URLClassLoader(new URL[] {out.toUri().toURL()})) {
                loader.loadClass("ReadmeRows").getMethod("run").invoke(null);
            }
        }
        for (String made : new String[] {"ReadmeRows.java", "ReadmeRows.class"}) {
            Files.deleteIfExists(out.resolve(made));
        }
        allTests(readme);
        Check.finish();
    }

    private static String program(String readme) {
        StringBuilder helpers = new StringBuilder();
        StringBuilder rows = new StringBuilder();
        Matcher block = BLOCK.matcher(readme);
        while (block.find()) {
            String code = block.group(1);
            if (code.startsWith("static ")) {
                helpers.append(code);
            } else {
                rows.append(TOLD.matcher(code).replaceAll("due(\"$1\", $1, $2L);"));
            }
        }
        Check.isTrue("rows that tell an answer", rows.toString().split("due\\(").length > 50);
        Check.isTrue("no row without an answer", !Pattern.compile("(?m)^land\\.").matcher(rows).find());
        return "public class ReadmeRows {\n"
            + "static void due(String call, long got, long want) {\n"
            + "if (got != want) { throw new IllegalStateException(call + \" answers \" + got + \", not \" + want); }\n"
            + "}\n" + helpers + "public static void run() {\n" + rows + "}\n}\n";
    }

    /** Each test of the project is told of in README.md. */
    private static void allTests(String readme) throws Exception {
        try (var files = Files.list(Path.of("src/test/java"))) {
            for (Path file : (Iterable<Path>) files::iterator) {
                String name = file.getFileName().toString().replace(".java", "");
                Check.isTrue(name + " is named", readme.contains("`" + name + "`"));
            }
        }
    }
}
