import java.io.IOException;
import java.lang.reflect.Method;
import java.lang.reflect.Modifier;
import java.net.URL;
import java.net.URLClassLoader;
import java.nio.file.Files;
import java.nio.file.Path;
import java.util.ArrayList;
import java.util.List;
import java.util.regex.Matcher;
import java.util.regex.Pattern;
import java.util.stream.Stream;
import javax.tools.ToolProvider;

/** README.md names every call, and its examples answer what it says behind them. */
public final class ReadmeTest {
    private static final Pattern EXAMPLE = Pattern.compile("(?s)```java\n(.*?)```");
    private static final Pattern ANSWERED = Pattern.compile("(?m)^(fiber\\..*?);\\s*// (-?\\d+)(?::.*)?$");

    private ReadmeTest() {
    }

    public static void main(String[] args) throws Exception {
        String text = Files.readString(Path.of("README.md"));
        namesEveryCall(text);
        List<String> examples = examples(text);
        Checks.due("examples", examples.size(), 2);
        run(sourceOf(examples));
        Checks.finish();
    }

    /** The examples call this, from a class that is loaded apart. */
    public static void due(String call, int got, int want) {
        Checks.due("README: " + call, got, want);
    }

    private static void namesEveryCall(String text) {
        for (Method method : FiberTrace.class.getDeclaredMethods()) {
            if (Modifier.isPublic(method.getModifiers())) {
                String call = "`" + method.getName() + "(";
                Checks.due("README names " + method.getName(), text.contains(call) ? 1 : 0, 1);
            }
        }
    }

    /** The examples, with each call that has an answer behind it held against that. */
    private static List<String> examples(String text) {
        List<String> list = new ArrayList<>();
        Matcher blocks = EXAMPLE.matcher(text);
        while (blocks.find()) {
            Matcher calls = ANSWERED.matcher(blocks.group(1));
            Checks.due("an example has answers", calls.find() ? 1 : 0, 1);
            String checked = calls.replaceAll(call -> Matcher.quoteReplacement(
                    "ReadmeTest.due(\"" + call.group(1).replace("\"", "\\\"") + "\", "
                    + call.group(1) + ", " + call.group(2) + ");"));
            list.add(checked);
        }
        return list;
    }

    private static String sourceOf(List<String> examples) {
        StringBuilder source = new StringBuilder("public final class Examples {\n");
        source.append("    public static void main(String[] args) {\n");
        for (String example : examples) {
            source.append("{\n").append(example).append("}\n");
        }
        return source.append("    }\n}\n").toString();
    }

    private static void run(String source) throws Exception {
        Path folder = Files.createTempDirectory("readme");
        try {
            Path file = Files.writeString(folder.resolve("Examples.java"), source);
            int failed = ToolProvider.getSystemJavaCompiler().run(null, null, null,
                    "-cp", System.getProperty("java.class.path"), "-d", folder.toString(), file.toString());
            Checks.due("the examples can be compiled", failed, 0);
            if (failed == 0) {
                start(folder);
            }
        } finally {
            remove(folder);
        }
    }

    private static void start(Path folder) throws Exception {
        URL[] places = {folder.toUri().toURL()};
        try (URLClassLoader loader = new URLClassLoader(places, ReadmeTest.class.getClassLoader())) {
            loader.loadClass("Examples").getMethod("main", String[].class).invoke(null, (Object) new String[0]);
        }
    }

    private static void remove(Path folder) throws IOException {
        try (Stream<Path> files = Files.list(folder)) {
            for (Path file : files.toList()) {
                Files.delete(file);
            }
        }
        Files.delete(folder);
    }
}
