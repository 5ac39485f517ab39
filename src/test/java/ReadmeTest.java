import java.io.File;
import java.net.URL;
import java.net.URLClassLoader;
import java.nio.file.Files;
import java.nio.file.Path;
import java.util.regex.Matcher;
import java.util.regex.Pattern;
import javax.tools.ToolProvider;

/** Compiles the Java that stands in README.md, and holds each answer that is told there behind "//" against the class. */
final class ReadmeTest {
    private static final Pattern BLOCK = Pattern.compile("```java\n(.*?)```", Pattern.DOTALL);
    private static final Pattern ANSWER = Pattern.compile("(?m)^(x\\..*);\\s*// (-?\\d+|true|false)\\b.*$");

    public static void main(String[] args) throws Exception {
        StringBuilder methods = new StringBuilder();
        StringBuilder calls = new StringBuilder();
        Matcher block = BLOCK.matcher(Files.readString(Path.of(System.getProperty("readme", "README.md"))));
        while (block.find()) (block.group(1).startsWith("static ") ? methods : calls).append(block.group(1));
        int answers = (int) ANSWER.matcher(calls).results().count();
        String asked = ANSWER.matcher(calls).replaceAll(m -> Matcher.quoteReplacement(
            "if (" + m.group(1) + " != " + m.group(2) + ") wrong(\"" + m.group(1).replace("\"", "\\\"") + "\");"));
        int wrong = run("public class Readme {\n    static int wrong;\n"
            + "    static void wrong(String call) { wrong++; System.out.println(call + \" is not as README.md tells\"); }\n"
            + "    public static int run() {\n" + asked + "return wrong;\n}\n" + methods + "}\n");
        System.out.println(answers - wrong + " passed, " + wrong + " failed");
        if (wrong != 0 || answers == 0) System.exit(1);
    }

    private static int run(String program) throws Exception {
        Path folder = Files.createTempDirectory("readme");
        Path source = Files.writeString(folder.resolve("Readme.java"), program);
        String here = new File(ReadmeTest.class.getProtectionDomain().getCodeSource().getLocation().toURI()).getPath();
        int compiled = ToolProvider.getSystemJavaCompiler().run(null, null, null, "-cp", here, "-d", folder.toString(), source.toString());
        if (compiled != 0) throw new IllegalStateException("the Java of README.md does not compile");
        try (URLClassLoader loader = new URLClassLoader(new URL[] {folder.toUri().toURL()})) {
            return (int) loader.loadClass("Readme").getMethod("run").invoke(null);
        } finally {
            for (File f : folder.toFile().listFiles()) f.delete();
            Files.delete(folder);
        }
    }
}
