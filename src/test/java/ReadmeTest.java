import java.io.IOException;
import java.net.URL;
import java.net.URLClassLoader;
import java.nio.file.Files;
import java.nio.file.Path;
import java.util.regex.Matcher;
import java.util.regex.Pattern;
import javax.tools.JavaCompiler;
import javax.tools.ToolProvider;

/** Runs the examples of README.md, one behind the other: each call must answer what stands behind it. */
public final class ReadmeTest {
    private static final Pattern BLOCK = Pattern.compile("```java\n(.*?)```", Pattern.DOTALL);
    private static final Pattern CALL = Pattern.compile("^(.*\\));\\s*// (\"[^\"]*\"|-?\\d+|NONE)(:.*)?$");

    private static int answers = 0;

    private static String program(String readme) {
        StringBuilder helpers = new StringBuilder();
        StringBuilder calls = new StringBuilder();
        Matcher block = BLOCK.matcher(readme);
        while (block.find()) {
            if (block.group(1).startsWith("static ")) {
                helpers.append(block.group(1));
                continue;
            }
            for (String line : block.group(1).split("\n")) {
                calls.append(held(line)).append('\n');
            }
        }
        return "public final class Readme { private static final int NONE = BranchedText.NONE;\n" + helpers
            + "public static int run() { int wrong = 0;\n" + calls + "return wrong; } }\n";
    }

    private static String held(String line) {
        Matcher call = CALL.matcher(line);
        if (!call.matches()) {
            return line;
        }
        answers++;
        String told = call.group(1).replace("\"", "\\\"");
        return "{ String got = String.valueOf(" + call.group(1) + "), due = String.valueOf(" + call.group(2) + ");\n"
            + "if (!got.equals(due)) { wrong++; System.out.println(\"README.md: " + told
            + " answered \" + got + \", due is \" + due); } }";
    }

    private static int run(String program, Path in) throws IOException, ReflectiveOperationException {
        Path source = in.resolve("Readme.java");
        Files.writeString(source, program);
        JavaCompiler compiler = ToolProvider.getSystemJavaCompiler();
        String path = System.getProperty("java.class.path");
        if (compiler.run(null, null, null, "-d", in.toString(), "-cp", path, source.toString()) != 0) {
            System.out.println("README.md: its examples do not compile");
            return 1;
        }
        try (URLClassLoader loader = new URLClassLoader(new URL[] {in.toUri().toURL()})) {
            return (int) loader.loadClass("Readme").getMethod("run").invoke(null);
        }
    }

    private static void remove(Path in) throws IOException {
        Files.deleteIfExists(in.resolve("Readme.java"));
        Files.deleteIfExists(in.resolve("Readme.class"));
        Files.delete(in);
    }

    public static void main(String[] args) throws IOException, ReflectiveOperationException {
        String program = program(Files.readString(Path.of("README.md")));
        Path in = Files.createTempDirectory("readme");
        int wrong;
        try {
            wrong = run(program, in);
        } finally {
            remove(in);
        }
        System.out.println("ReadmeTest: " + answers + " answers, " + wrong + " not as due");
        if (wrong > 0 || answers < 30) {
            System.exit(1);
        }
    }
}
