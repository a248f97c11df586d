import java.io.ByteArrayOutputStream;
import java.io.IOException;
import java.io.PrintStream;
import java.net.URL;
import java.net.URLClassLoader;
import java.nio.file.Files;
import java.nio.file.Path;
import java.util.Comparator;
import java.util.Set;
import java.util.TreeSet;
import java.util.regex.Matcher;
import java.util.regex.Pattern;
import java.util.stream.Collectors;
import java.util.stream.Stream;
import javax.tools.JavaCompiler;
import javax.tools.ToolProvider;

/** README.md is true; the document's path is the second argument, the README's the third. */
public final class ReadmeTest {
    private static final String EXAMPLE = "Example";

    public static void main(String[] args) throws Exception {
        String document = Files.readString(Path.of(args.length > 1 ? args[1] : "../shared/DOC.md"));
        String readme = Files.readString(Path.of(args.length > 2 ? args[2] : "README.md"));
        Due.isTrue("the example prints what stands below it", run(block(readme, "java")).equals(block(readme, "text")));
        everyCallIsNamed(document, readme);
        everyTestIsNamed(readme);
        Due.end();
    }

    private static String block(String text, String language) {
        Matcher m = Pattern.compile("(?s)```" + language + "\n(.*?)```").matcher(text);
        boolean found = m.find();
        Due.isTrue("there is a block of " + language, found);
        return found ? m.group(1) : "";
    }

    private static void everyCallIsNamed(String document, String readme) {
        Matcher m = Pattern.compile("public (?:int )?(\\w+\\(.*\\));").matcher(block(document, "java"));
        int calls = 0;
        while (m.find()) {
            calls++;
            Due.isTrue("README.md has " + m.group(1), readme.contains("\n| `" + m.group(1) + "` | "));
        }
        Due.is("calls of the face, with the constructor", calls, 27);
    }

    private static void everyTestIsNamed(String readme) throws IOException {
        Set<String> named = new TreeSet<>();
        Matcher m = Pattern.compile("`(\\w+Test)`").matcher(readme);
        while (m.find()) {
            named.add(m.group(1));
        }
        try (Stream<Path> files = Files.list(Path.of("src/test/java"))) {
            Set<String> there = files.map(f -> f.getFileName().toString()).filter(f -> f.endsWith("Test.java"))
                .map(f -> f.replace(".java", "")).collect(Collectors.toCollection(TreeSet::new));
            Due.isTrue("the tests are " + there + ", README.md has " + named, named.equals(there));
        }
    }

    /** What the statements print, with the ends of lines that README.md has. */
    private static String run(String statements) throws Exception {
        Path directory = Files.createTempDirectory("readme");
        try {
            Path source = directory.resolve(EXAMPLE + ".java");
            Files.writeString(source, "public final class " + EXAMPLE + " { public static void main(String[] args) {\n"
                + statements + "} }\n");
            JavaCompiler compiler = ToolProvider.getSystemJavaCompiler();
            String classes = System.getProperty("java.class.path");
            int code = compiler.run(null, null, null, "-cp", classes, "-d", directory.toString(), source.toString());
            Due.is("the example's compilation", code, 0);
            return code == 0 ? printed(directory) : "";
        } finally {
            remove(directory);
        }
    }

    private static String printed(Path directory) throws Exception {
        PrintStream before = System.out;
        ByteArrayOutputStream bytes = new ByteArrayOutputStream();
        try (URLClassLoader loader = new URLClassLoader(new URL[] {directory.toUri().toURL()})) {
            System.setOut(new PrintStream(bytes, true));
            loader.loadClass(EXAMPLE).getMethod("main", String[].class).invoke(null, (Object) new String[0]);
        } finally {
            System.setOut(before);
        }
        return bytes.toString().replace(System.lineSeparator(), "\n");
    }

    private static void remove(Path directory) throws IOException {
        try (Stream<Path> all = Files.walk(directory)) {
            for (Path p : all.sorted(Comparator.reverseOrder()).collect(Collectors.toList())) {
                Files.delete(p);
            }
        }
    }
}
