import java.lang.reflect.Method;
import java.net.URL;
import java.net.URLClassLoader;
import java.nio.charset.StandardCharsets;
import java.nio.file.Files;
import java.nio.file.Path;
import java.nio.file.Paths;
import java.util.ArrayList;
import java.util.List;
import java.util.regex.Matcher;
import java.util.regex.Pattern;
import javax.tools.ToolProvider;

/** The code that README.md shows: it can be compiled, and each call answers what stands behind it. */
public final class ReadmeTest {
    private static final Pattern BLOCK = Pattern.compile("```java\n(.*?)```", Pattern.DOTALL);
    private static final Pattern CALL = Pattern.compile("((?:x\\.|tell).*\\)); *// (\\w+|-\\d+): .*");

    /** Stands for an answer in the list of them where the call throws. */
    private static final long THROWN = Long.MIN_VALUE;

    private final List<String> calls = new ArrayList<>();
    private final List<Long> due = new ArrayList<>();

    public static void main(String[] args) throws Exception {
        ReadmeTest test = new ReadmeTest();
        String readme = new String(Files.readAllBytes(Paths.get("README.md")), StandardCharsets.UTF_8);
        List<?> answers = answers(test.shown(readme));
        Checks.due("calls are shown", test.calls.size() > 20, true);
        Checks.due("calls made", answers.size(), test.calls.size());
        for (int i = 0; i < answers.size(); i++) {
            Checks.due("README.md: " + test.calls.get(i), (Long) answers.get(i), test.due.get(i));
        }
        Checks.finish();
    }

    /** A class of what is shown, in which each call adds its answer to a list. */
    private String shown(String readme) {
        StringBuilder source = new StringBuilder("public class Shown {\n"
            + "static long of(int v) { return v; }\n"
            + "static long of(boolean v) { return v ? 1 : 0; }\n");
        for (Matcher block = BLOCK.matcher(readme); block.find();) {
            boolean function = block.group(1).startsWith("static ");
            source.append(function ? block.group(1) : function(block.group(1)));
        }
        return source.append("}\n").toString();
    }

    private String function(String block) {
        StringBuilder source = new StringBuilder("public static java.util.List<Long> run() {\n"
            + "java.util.List<Long> all = new java.util.ArrayList<>();\n");
        for (String line : block.split("\n")) {
            Matcher call = CALL.matcher(line);
            source.append(call.matches() ? added(call.group(1), call.group(2)) : line).append('\n');
        }
        return source.append("return all;\n}\n").toString();
    }

    private String added(String call, String answer) {
        calls.add(call);
        due.add(number(answer));
        return "try { all.add(of(" + call + ")); } catch (java.util.NoSuchElementException e) { all.add(Long.MIN_VALUE); }";
    }

    private static long number(String answer) {
        switch (answer) {
            case "NONE":
                return NamedCallers.NONE;
            case "HIDDEN":
                return NamedCallers.HIDDEN;
            case "true":
                return 1;
            case "false":
                return 0;
            case "throws":
                return THROWN;
            default:
                return Long.parseLong(answer);
        }
    }

    private static List<?> answers(String source) throws Exception {
        Path directory = Files.createTempDirectory("readme");
        Path file = directory.resolve("Shown.java");
        try {
            Files.write(file, source.getBytes(StandardCharsets.UTF_8));
            int failed = ToolProvider.getSystemJavaCompiler().run(null, null, null,
                "-cp", System.getProperty("java.class.path"), "-d", directory.toString(), file.toString());
            Checks.due("what README.md shows can be compiled", failed, 0);
            return failed == 0 ? run(directory) : List.of();
        } finally {
            Files.deleteIfExists(directory.resolve("Shown.class"));
            Files.deleteIfExists(file);
            Files.deleteIfExists(directory);
        }
    }

    private static List<?> run(Path directory) throws Exception {
        try (URLClassLoader loader = new URLClassLoader(new URL[] {directory.toUri().toURL()})) {
            Method run = loader.loadClass("Shown").getMethod("run");
            return (List<?>) run.invoke(null);
        }
    }
}
