import java.io.ByteArrayOutputStream;
import java.io.File;
import java.io.IOException;
import java.io.PrintStream;
import java.net.URL;
import java.net.URLClassLoader;
import java.nio.file.Files;
import java.nio.file.Path;
import java.util.ArrayList;
import java.util.Comparator;
import java.util.List;
import java.util.regex.Matcher;
import java.util.regex.Pattern;
import java.util.stream.Stream;
import javax.tools.JavaCompiler;
import javax.tools.ToolProvider;

/** The example in README.md compiles, and prints behind each println what its comment says. */
public final class ReadmeTest {
    private static final String NAME = "ReadmeExample";
    private static final String CLASSES = System.getProperty("java.class.path");

    public static void main(String[] args) throws Exception {
        String example = example(Files.readString(Path.of("README.md")));
        // beside the classes of the tests: there .ci/run may write
        Path place = Files.createTempDirectory(Path.of(CLASSES.split(File.pathSeparator)[0]), "readme");
        try {
            List<String> want = promised(example);
            List<String> got = printed(example, place);
            boolean alike = got.equals(want) && !want.isEmpty();
            System.out.println("ReadmeTest: " + (alike ? "as it says" : "prints " + got + ", says " + want));
            if (!alike) System.exit(1);
        } finally {
            remove(place);
        }
    }

    private static String example(String readme) {
        Matcher block = Pattern.compile("(?s)```java\n(.*?)```").matcher(readme);
        if (!block.find()) throw new IllegalStateException("README.md has no example");
        return block.group(1);
    }

    private static List<String> promised(String example) {
        List<String> all = new ArrayList<>();
        for (String line : example.split("\n")) {
            if (!line.contains("println")) continue;
            Matcher says = Pattern.compile("// (-?\\d+)$").matcher(line);
            all.add(says.find() ? says.group(1) : "nothing");
        }
        return all;
    }

    private static List<String> printed(String example, Path place) throws Exception {
        Path source = place.resolve(NAME + ".java");
        Files.writeString(source, "public final class " + NAME + " {\n public static void main(String[] args) {\n" + example + " }\n}\n");
        JavaCompiler compiler = ToolProvider.getSystemJavaCompiler();
        if (compiler == null) throw new IllegalStateException("there is no javac");
        if (compiler.run(null, null, null, "-cp", CLASSES, "-d", place.toString(), source.toString()) != 0) {
            throw new IllegalStateException("the example does not compile");
        }
        PrintStream before = System.out;
        ByteArrayOutputStream out = new ByteArrayOutputStream();
        try (URLClassLoader loader = new URLClassLoader(new URL[] {place.toUri().toURL()})) {
            System.setOut(new PrintStream(out, true));
            loader.loadClass(NAME).getMethod("main", String[].class).invoke(null, (Object) new String[0]);
        } finally {
            System.setOut(before);
        }
        return out.toString().lines().toList();
    }

    private static void remove(Path place) throws IOException {
        try (Stream<Path> all = Files.walk(place)) {
            for (Path one : all.sorted(Comparator.reverseOrder()).toList()) Files.delete(one);
        }
    }
}
