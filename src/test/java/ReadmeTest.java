import java.io.IOException;
import java.net.URL;
import java.net.URLClassLoader;
import java.nio.file.Files;
import java.nio.file.Path;
import java.util.Comparator;
import java.util.List;
import java.util.function.BiConsumer;
import java.util.regex.Matcher;
import java.util.regex.Pattern;
import java.util.stream.Stream;
import javax.tools.ToolProvider;

/** The examples of README.md answer what stands behind them there. */
public final class ReadmeTest {
    private static final Pattern EXAMPLE = Pattern.compile("(?s)```java\n(.*?)```");
    private static final Pattern CALL = Pattern.compile("x\\.(\\w+)\\((.*)\\); +// (NONE|true|false|-?[0-9]+)\\b(?::? .*|,.*)?");
    private static final Pattern WRITTEN = Pattern.compile("x\\.write\\(\\); +// [0-9]+: (\\{.*\\})");

    public static void main(String[] args) throws ReflectiveOperationException, IOException {
        Path folder = Files.createTempDirectory("readme");
        try {
            Path source = folder.resolve("ReadmeExample.java");
            Files.writeString(source, program(Files.readString(Path.of("README.md"))));
            int answer = ToolProvider.getSystemJavaCompiler().run(null, null, null,
                "-cp", System.getProperty("java.class.path"), "-d", folder.toString(), source.toString());
            Check.due("javac of the examples", answer, 0);
            if (answer == 0) {
                run(folder);
            }
        } finally {
            remove(folder);
        }
        Check.end();
    }

    /** The examples that are methods beside those that are calls, each call with the answer that is due. */
    private static String program(String readme) {
        StringBuilder methods = new StringBuilder();
        StringBuilder calls = new StringBuilder();
        Matcher example = EXAMPLE.matcher(readme);
        while (example.find()) {
            String text = example.group(1);
            if (text.startsWith("static")) {
                methods.append(text);
            } else {
                text.lines().forEach(line -> calls.append(checked(line)).append('\n'));
            }
        }
        return "import java.util.function.BiConsumer;\npublic final class ReadmeExample {\n" + methods
            + "public static void run(BiConsumer<String, String> due, BiConsumer<SchemaRecords, String> written) {\n"
            + calls + "}\n}\n";
    }

    private static String checked(String line) {
        Matcher call = CALL.matcher(line);
        if (!call.matches()) {
            Check.due("an example whose answer can't be read: " + line, line.contains("//"), false);
            return line;
        }
        String want = call.group(3).equals("NONE") ? "SchemaRecords.NONE" : call.group(3);
        String asked = "x." + call.group(1) + "(" + call.group(2) + ")";
        String shown = "\"" + asked.replace("\\", "\\\\").replace("\"", "\\\"") + " \" + ";
        String due = "due.accept(" + shown + asked + ", " + shown + want + ");";
        Matcher text = WRITTEN.matcher(line);
        if (text.matches()) {
            due += " written.accept(x, \"" + text.group(1).replace("\\", "\\\\") + "\");";
        }
        return due;
    }

    /** The answers come back through what both sides know: the examples' class can't see Check. */
    private static void run(Path folder) throws ReflectiveOperationException, IOException {
        BiConsumer<String, String> due = (got, want) -> Check.due("the example", got, want);
        BiConsumer<SchemaRecords, String> written = (x, want) ->
            Check.due("the example's output", Check.output(x, want.length()), want);
        try (URLClassLoader loader = new URLClassLoader(new URL[] {folder.toUri().toURL()}, ReadmeTest.class.getClassLoader())) {
            Class<?> example = loader.loadClass("ReadmeExample");
            example.getMethod("run", BiConsumer.class, BiConsumer.class).invoke(null, due, written);
        }
    }

    private static void remove(Path folder) throws IOException {
        List<Path> all;
        try (Stream<Path> walk = Files.walk(folder)) {
            all = walk.sorted(Comparator.reverseOrder()).toList();
        }
        for (Path one : all) {
            Files.delete(one);
        }
    }
}
