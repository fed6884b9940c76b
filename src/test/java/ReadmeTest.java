import java.io.IOException;
import java.net.URL;
import java.net.URLClassLoader;
import java.nio.file.Files;
import java.nio.file.Path;
import java.util.regex.Matcher;
import java.util.regex.Pattern;
import java.util.stream.Stream;
import javax.tools.JavaCompiler;
import javax.tools.ToolProvider;

/** The examples of README.md answer what their comments say. */
public final class ReadmeTest {
    private static final Pattern BLOCK = Pattern.compile("(?s)```java\n(.*?)```");
    private static final Pattern CALL = Pattern.compile("(?:(int )?(\\w+) = )?(x\\.\\w+\\(.*?\\)); +// (-?\\d+|true|false)\\b.*");

    public static void main(String[] args) throws Exception {
        Matcher block = BLOCK.matcher(Files.readString(Path.of("README.md")));
        int blocks = 0;
        while (block.find()) {
            blocks++;
            perform("Example" + blocks, source("Example" + blocks, block.group(1)));
        }
        Due.is("examples", blocks, 4);
        Due.settle();
    }

    /** The example's loader is not that of Due, which it can't reach so: it tells its answers as rows. */
    private static String source(String name, String example) {
        StringBuilder code = new StringBuilder();
        code.append("public final class ").append(name).append(" {\n");
        code.append("public static java.util.List<Object[]> answers() {\n");
        code.append("java.util.List<Object[]> all = new java.util.ArrayList<>();\n");
        for (String line : example.split("\n")) {
            code.append(asked(line)).append('\n');
        }
        return code.append("return all;\n}\n}\n").toString();
    }

    private static String asked(String line) {
        Matcher call = CALL.matcher(line);
        if (!call.matches()) {
            Due.holds("only the first line of an example has no answer: " + line,
                    line.isBlank() || line.equals("CountKeyStore x = new CountKeyStore();"));
            return line;
        }
        String variable = call.group(2);
        String answer = variable == null ? call.group(3) : variable;
        String told = "all.add(new Object[] {\"" + call.group(3) + "\", " + answer + ", \"" + call.group(4) + "\"});";
        if (variable == null) {
            return told;
        }
        String type = call.group(1) == null ? "" : call.group(1);
        return type + variable + " = " + call.group(3) + "; " + told;
    }

    private static void perform(String name, String code) throws Exception {
        Path room = Files.createTempDirectory("readme");
        try {
            Path file = Files.writeString(room.resolve(name + ".java"), code);
            JavaCompiler compiler = ToolProvider.getSystemJavaCompiler();
            int failed = compiler.run(null, null, null, "-cp", System.getProperty("java.class.path"),
                    "-d", room.toString(), file.toString());
            Due.is(name + " compiles", failed, 0);
            if (failed == 0) {
                ask(name, room);
            }
        } finally {
            remove(room);
        }
    }

    private static void ask(String name, Path room) throws Exception {
        try (URLClassLoader loader = new URLClassLoader(new URL[] {room.toUri().toURL()})) {
            Object all = loader.loadClass(name).getMethod("answers").invoke(null);
            for (Object answer : (java.util.List<?>) all) {
                Object[] row = (Object[]) answer;
                Due.holds(name + ": " + row[0] + " answered " + row[1] + ", README.md says " + row[2] + ", which",
                        row[2].equals(String.valueOf(row[1])));
            }
        }
    }

    private static void remove(Path room) throws IOException {
        try (Stream<Path> files = Files.list(room)) {
            for (Path file : files.toList()) {
                Files.delete(file);
            }
        }
        Files.delete(room);
    }
}
