import java.net.URL;
import java.net.URLClassLoader;
import java.nio.charset.StandardCharsets;
import java.nio.file.Files;
import java.nio.file.Path;
import java.util.ArrayList;
import java.util.List;
import java.util.regex.Matcher;
import java.util.regex.Pattern;
import java.util.stream.Stream;
import javax.tools.ToolProvider;

/** README.md's examples are compiled and run: each call with a number in its comment answers that number. */
public final class ReadmeTest {
    private static final Checks C = new Checks();
    private static final Pattern BLOCK = Pattern.compile("```java\n(.*?)```", Pattern.DOTALL);
    private static final Pattern ANSWER = Pattern.compile("(?:int (\\w+) = )?(span\\..*\\));\\s*// (-?\\d+): \\S.*");

    public static void main(String[] args) throws Exception {
        String readme = Files.readString(Path.of("README.md"), StandardCharsets.US_ASCII);
        C.topic("README");
        examples(readme);
        everyTestIsNamed(readme);
        C.end("ReadmeTest");
    }

    private static void examples(String readme) throws Exception {
        List<String> calls = new ArrayList<>();
        List<Long> due = new ArrayList<>();
        long[] got = run(source(readme, calls, due));
        C.holds("it has examples of all parts: " + due.size(), due.size() >= 20);
        for (int i = 0; i < due.size(); i++) {
            C.due(calls.get(i), got[i], due.get(i));
        }
    }

    /** The examples, one behind the other, as a method that answers what each told call answered. */
    private static String source(String readme, List<String> calls, List<Long> due) {
        StringBuilder body = new StringBuilder();
        Matcher blocks = BLOCK.matcher(readme);
        while (blocks.find()) {
            for (String line : blocks.group(1).split("\n")) {
                Matcher answer = ANSWER.matcher(line);
                if (answer.matches()) {
                    body.append("got[" + calls.size() + "] = " + answer.group(2) + ";\n");
                    calls.add(answer.group(2));
                    due.add(Long.parseLong(answer.group(3)));
                } else {
                    C.holds("each answer is told: " + line, !line.contains("; ") || line.startsWith("//"));
                    body.append(line).append('\n');
                }
            }
        }
        return "public class Example {\npublic static long[] run() {\nlong[] got = new long[" + calls.size() + "];\n"
            + body + "return got;\n}\n}\n";
    }

    private static long[] run(String source) throws Exception {
        Path folder = Files.createTempDirectory("readme");
        Path file = folder.resolve("Example.java");
        try {
            Files.writeString(file, source, StandardCharsets.US_ASCII);
            int failed = ToolProvider.getSystemJavaCompiler().run(null, null, null, "-cp",
                System.getProperty("java.class.path"), "-d", folder.toString(), file.toString());
            C.due("the examples compile", failed, 0);
            try (URLClassLoader loader = new URLClassLoader(new URL[] {folder.toUri().toURL()})) {
                return failed != 0 ? new long[1000] : (long[]) loader.loadClass("Example").getMethod("run").invoke(null);
            }
        } finally {
            Files.deleteIfExists(folder.resolve("Example.class"));
            Files.deleteIfExists(file);
            Files.deleteIfExists(folder);
        }
    }

    private static void everyTestIsNamed(String readme) throws Exception {
        try (Stream<Path> files = Files.list(Path.of("src/test/java"))) {
            for (Path file : files.toList()) {
                String name = file.getFileName().toString().replace(".java", "");
                C.holds(name + " is named", readme.contains('`' + name + '`') || readme.contains('`' + name + '.'));
            }
        }
    }
}
