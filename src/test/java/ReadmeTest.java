import java.io.ByteArrayOutputStream;
import java.io.IOException;
import java.io.PrintStream;
import java.net.URL;
import java.net.URLClassLoader;
import java.nio.charset.StandardCharsets;
import java.nio.file.Files;
import java.nio.file.Path;
import java.util.ArrayList;
import java.util.Arrays;
import java.util.LinkedHashMap;
import java.util.List;
import java.util.Map;
import java.util.TreeSet;
import java.util.regex.Matcher;
import java.util.regex.Pattern;
import java.util.stream.Stream;
import javax.tools.ToolProvider;

/** The examples of README.md, compiled and run as they stand there: each prints what is told behind its calls. */
public final class ReadmeTest {
    private static final Due due = new Due("ReadmeTest");
    private static final Pattern EXAMPLE = Pattern.compile("^```java\n(.*?)^```$", Pattern.DOTALL | Pattern.MULTILINE);
    private static final Pattern CLASS = Pattern.compile("\\bclass (\\w+)");
    private static final Pattern PRINTED = Pattern.compile("System\\.out\\.println\\(.*\\); +// (-?\\w+)(:.*)?$");

    /** Each example by the name of its class. */
    private static Map<String, String> examples(String readme) {
        Map<String, String> found = new LinkedHashMap<>();
        for (Matcher m = EXAMPLE.matcher(readme); m.find(); ) {
            Matcher name = CLASS.matcher(m.group(1));
            due.is("an example is a class", name.find(), true);
            found.put(name.group(1), m.group(1));
        }
        return found;
    }

    private static Path compile(Map<String, String> examples) throws IOException {
        Path folder = Files.createTempDirectory("readme");
        List<String> arguments = new ArrayList<>(Arrays.asList("-cp", System.getProperty("java.class.path"), "-d", folder.toString()));
        for (Map.Entry<String, String> example : examples.entrySet()) {
            Path file = folder.resolve(example.getKey() + ".java");
            Files.writeString(file, example.getValue());
            arguments.add(file.toString());
        }
        int answer = ToolProvider.getSystemJavaCompiler().run(null, null, null, arguments.toArray(new String[0]));
        due.is("the examples compile", answer, 0);
        return folder;
    }

    private static void remove(Path folder) throws IOException {
        try (Stream<Path> files = Files.list(folder)) {
            for (Path file : (Iterable<Path>) files::iterator) {
                Files.delete(file);
            }
        }
        Files.delete(folder);
    }

    private static String[] run(Class<?> example) throws ReflectiveOperationException {
        ByteArrayOutputStream bytes = new ByteArrayOutputStream();
        PrintStream before = System.out;
        try (PrintStream printed = new PrintStream(bytes, true, StandardCharsets.UTF_8)) {
            System.setOut(printed);
            example.getMethod("main", String[].class).invoke(null, (Object) new String[0]);
        } finally {
            System.setOut(before);
        }
        return bytes.toString(StandardCharsets.UTF_8).split("\\R");
    }

    private static void compare(String name, String source, String[] printed) {
        int number = 0;
        for (String line : source.split("\n")) {
            if (line.contains("System.out.println")) {
                Matcher told = PRINTED.matcher(line);
                due.is(name + " tells what it prints: " + line.trim(), told.find(), true);
                due.is(name + ": " + line.trim(), number < printed.length ? printed[number] : "nothing", told.group(1));
                number++;
            }
        }
        due.is(name + " prints no more", printed.length, number);
    }

    /** All tests are told in README.md, and no other ones. */
    private static void tests(String readme) throws IOException {
        TreeSet<String> there = new TreeSet<>();
        try (Stream<Path> files = Files.list(Path.of("src/test/java"))) {
            files.map(f -> f.getFileName().toString()).filter(n -> n.endsWith("Test.java"))
                .forEach(n -> there.add(n.substring(0, n.length() - 5)));
        }
        TreeSet<String> told = new TreeSet<>();
        for (Matcher m = Pattern.compile("`(\\w+Test)`").matcher(readme); m.find(); ) {
            told.add(m.group(1));
        }
        due.is("the tests that README.md tells", told.toString(), there.toString());
    }

    public static void main(String[] args) throws IOException, ReflectiveOperationException {
        String readme = Files.readString(Path.of("README.md"));
        Map<String, String> examples = examples(readme);
        Path folder = compile(examples);
        int run = 0;
        try (URLClassLoader loader = new URLClassLoader(new URL[] {folder.toUri().toURL()})) {
            for (Map.Entry<String, String> example : examples.entrySet()) {
                if (example.getValue().contains("void main(")) {
                    compare(example.getKey(), example.getValue(), run(loader.loadClass(example.getKey())));
                    run++;
                }
            }
        }
        remove(folder);
        due.is("examples were run", run, 3);
        tests(readme);
        due.finish();
    }
}
