import java.nio.file.Files;
import java.nio.file.Path;
import java.util.List;
import java.util.regex.Matcher;
import java.util.regex.Pattern;
import javax.tools.ToolProvider;

/** README.md's examples, one behind the other in one program: each call answers what stands behind it. */
public final class ReadmeTest {
    private static final Pattern BLOCK = Pattern.compile("```java\n(.*?)```", Pattern.DOTALL);
    private static final Pattern CALL = Pattern.compile("(x\\.\\w+\\(.*\\));\\s*// (-?\\d+)(:.*)?");

    private ReadmeTest() {
    }

    public static void main(String[] args) throws Exception {
        StringBuilder methods = new StringBuilder();
        StringBuilder calls = new StringBuilder();
        Matcher block = BLOCK.matcher(Files.readString(Path.of("README.md")));
        while (block.find()) {
            boolean isMethod = block.group(1).startsWith("static ");
            for (String line : block.group(1).lines().toList()) {
                (isMethod ? methods : calls).append(isMethod ? line : checked(line)).append('\n');
            }
        }
        Path made = Files.createTempDirectory(Path.of(System.getProperty("java.class.path")), "readme");
        Path source = made.resolve("ReadmeExamples.java");
        Files.writeString(source, "public final class ReadmeExamples {\n" + methods
                + "public static void main(String[] args) {\n" + calls + "}\n}\n");
        String path = System.getProperty("java.class.path");
        int failed = ToolProvider.getSystemJavaCompiler().run(null, null, null, "-cp", path, "-d", path, source.toString());
        Due.due("README.md", "the examples can be compiled", failed, 0);
        if (failed == 0) {
            Class.forName("ReadmeExamples").getMethod("main", String[].class).invoke(null, (Object) args);
        }
        for (String name : List.of("lane", "feed", "end", "law", "orders", "row", "status", "count", "fault", "stopped")) {
            Due.due("README.md", "has an example of " + name, (methods + "" + calls).contains("x." + name + "(") ? 1 : 0, 1);
        }
        Due.close();
    }

    private static String checked(String line) {
        Matcher call = CALL.matcher(line);
        if (!call.matches()) {
            return line;
        }
        return "Due.due(\"README.md\", \"" + call.group(1) + "\", " + call.group(1) + ", " + call.group(2) + "L);";
    }
}
