import java.nio.file.Files;
import java.nio.file.Path;
import java.util.regex.Matcher;
import java.util.regex.Pattern;
import javax.tools.ToolProvider;

/** README.md's example: it compiles, and each answer is the number that stands behind it. */
public final class ReadmeTest {
    private static final Pattern EXAMPLE = Pattern.compile("```java\n(.*?)```", Pattern.DOTALL);
    private static final Pattern ANSWER = Pattern.compile("(?:int|long) (\\w+) = .*; *// (-?\\d+).*");
    private static int answers = 0;

    /** The example as a program of its own, which tells each answer that is not the one behind it. */
    private static String program(String example) {
        StringBuilder text = new StringBuilder("public class Example { public static void main(String[] a) {\n");
        text.append("int wrong = 0;\n");
        for (String line : example.split("\n")) {
            text.append(line).append('\n');
            Matcher answer = ANSWER.matcher(line);
            if (answer.matches()) {
                answers++;
                String name = answer.group(1);
                text.append("if (").append(name).append(" != ").append(answer.group(2))
                    .append("L) { wrong++; System.out.println(\"README.md: ").append(name)
                    .append(" is \" + ").append(name).append("); }\n");
            }
        }
        return text.append("if (wrong != 0) System.exit(1);\n} }\n").toString();
    }

    public static void main(String[] args) throws Exception {
        Matcher found = EXAMPLE.matcher(Files.readString(Path.of("README.md")).replace("\r", ""));
        if (!found.find()) {
            System.out.println("README.md has no example");
            System.exit(1);
        }
        Path directory = Files.createTempDirectory("readme");
        Path source = directory.resolve("Example.java");
        Path made = directory.resolve("Example.class");
        Files.writeString(source, program(found.group(1)));
        String classes = System.getProperty("java.class.path");
        int code = ToolProvider.getSystemJavaCompiler().run(null, null, null,
            "-cp", classes, "-d", directory.toString(), source.toString());
        if (code == 0) {
            code = new ProcessBuilder("java", "-cp", directory + java.io.File.pathSeparator + classes, "Example")
                .inheritIO().start().waitFor();
        }
        Files.deleteIfExists(made);
        Files.deleteIfExists(source);
        Files.deleteIfExists(directory);
        System.out.println(answers + " answers of the example");
        if (code != 0 || answers == 0) {
            System.exit(1);
        }
    }
}
