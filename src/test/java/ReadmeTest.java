import java.io.IOException;
import java.lang.reflect.Field;
import java.lang.reflect.Method;
import java.lang.reflect.Modifier;
import java.net.URL;
import java.net.URLClassLoader;
import java.nio.file.Files;
import java.nio.file.Path;
import java.util.regex.Matcher;
import java.util.regex.Pattern;
import javax.tools.ToolProvider;

/** README.md (-Dreadme=...): its example is compiled and run, and its tables name the whole face. */
public final class ReadmeTest {
    private static final Pattern EXAMPLE = Pattern.compile("(?s)```java\n(.*?)```");
    private static final String[] TOKENS = {"NUM", "ARG", "NEXT", "CALL", "GET", "SET", "ADD", "SUB", "LESS", "IF",
        "SEQ", "IS", "MAKE"};

    private static int wrong = 0;

    private static void due(boolean holds, String what) {
        if (!holds) {
            wrong++;
            System.out.println("README.md: " + what);
        }
    }

    private static String runExample(String example, Path folder) throws Exception {
        Path file = folder.resolve("Example.java");
        Files.writeString(file, "public final class Example {\n    public static String run() {\n" + example
                + "        return answer + \" \" + result + \" \" + steps;\n    }\n}\n");
        int code = ToolProvider.getSystemJavaCompiler().run(null, null, null,
                "-cp", System.getProperty("java.class.path"), "-d", folder.toString(), file.toString());
        if (code != 0) {
            return "it does not compile";
        }
        try (URLClassLoader loader = new URLClassLoader(new URL[] {folder.toUri().toURL()})) {
            return (String) loader.loadClass("Example").getMethod("run").invoke(null);
        }
    }

    private static void delete(Path folder) throws IOException {
        Files.deleteIfExists(folder.resolve("Example.java"));
        Files.deleteIfExists(folder.resolve("Example.class"));
        Files.delete(folder);
    }

    private static void example(String readme) throws Exception {
        Matcher example = EXAMPLE.matcher(readme);
        if (!example.find()) {
            due(false, "there is no example");
            return;
        }
        Path folder = Files.createTempDirectory("readme");
        String answer = runExample(example.group(1), folder);
        due(answer.equals("0 105 5"), "the example's answer, result and steps are " + answer + ", due is 0 105 5");
        delete(folder);
    }

    private static void tables(String readme) {
        for (Method m : MultiDispatch.class.getDeclaredMethods()) {
            if (Modifier.isPublic(m.getModifiers())) {
                due(readme.contains("`" + m.getName() + "("), "no row tells of " + m.getName());
            }
        }
        for (Field f : MultiDispatch.class.getFields()) {
            due(Pattern.compile("\\b" + f.getName() + "\\b").matcher(readme).find(), "nothing tells of " + f.getName());
        }
        for (int kind = 0; kind < TOKENS.length; kind++) {
            Pattern row = Pattern.compile("(?m)^\\|[^|]*\\b" + kind + "\\b[^|]*\\|[^|]*\\b" + TOKENS[kind] + "\\b");
            due(row.matcher(readme).find(), "no row tells of token " + kind + ", " + TOKENS[kind]);
        }
    }

    private static void tests(String readme, Path folder) throws IOException {
        try (var files = Files.newDirectoryStream(folder, "*.java")) {
            for (Path file : files) {
                String name = file.getFileName().toString().replace(".java", "");
                due(readme.contains("`" + name + "`"), "nothing tells of " + name);
            }
        }
        due(readme.contains(".ci/run"), "nothing tells how to run the tests");
    }

    public static void main(String[] args) throws Exception {
        Path file = Path.of(System.getProperty("readme"));
        String readme = Files.readString(file);
        example(readme);
        tables(readme);
        tests(readme, file.resolveSibling("src/test/java"));
        System.out.println(wrong == 0 ? "README.md is as due" : wrong + " faults in README.md");
        System.exit(wrong == 0 ? 0 : 1);
    }
}
