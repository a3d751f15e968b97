import java.io.ByteArrayOutputStream;
import java.io.IOException;
import java.io.PrintStream;
import java.net.URL;
import java.net.URLClassLoader;
import java.nio.charset.StandardCharsets;
import java.nio.file.Files;
import java.nio.file.Path;
import java.util.Comparator;
import java.util.List;
import java.util.stream.Stream;
import javax.tools.ToolProvider;

/** README's program compiles with the class and prints what README says; its text is sound; it names each test. */
public final class ReadmeTest {
    private static final String WORDS = "devices block input pid man auto back stays output pick most least link value "
            + "other set plant old over";

    private ReadmeTest() {
    }

    public static void main(String[] args) throws IOException, ReflectiveOperationException {
        String readme = Files.readString(Path.of("README.md"));
        Path folder = Files.createTempDirectory("readme");
        try {
            programPrintsAsTold(readme, folder);
        } finally {
            clear(folder);
        }
        textIsWhole(readme);
        namesEachTest(readme);
        Check.end("ReadmeTest");
    }

    private static void programPrintsAsTold(String readme, Path folder)
            throws IOException, ReflectiveOperationException {
        Path program = folder.resolve("Example.java");
        Files.writeString(program, fenced(readme, "java"));
        int compiled = ToolProvider.getSystemJavaCompiler().run(null, null, null, "-encoding", "UTF-8", "-d",
                folder.toString(), program.toString(), "src/main/java/CascadeBus.java");
        Check.due("README's program compiles", compiled, 0);
        if (compiled != 0) {
            return;
        }
        List<String> printed = run(folder).lines().toList();
        List<String> told = fenced(readme, "text").lines().toList();
        Check.due("lines that README's program prints", printed.size(), told.size());
        for (int k = 0; k < Math.min(printed.size(), told.size()); k++) {
            Check.due("printed '" + printed.get(k) + "', README says '" + told.get(k) + "'",
                    printed.get(k).equals(told.get(k)), true);
        }
    }

    private static void textIsWhole(String readme) {
        String text = fenced(readme, "bus");
        CascadeBus bus = new CascadeBus();
        Check.due("the fault of README's text", Check.tell(bus, text), 0);
        Check.due("its place", bus.fault(), CascadeBus.NONE);
        for (String word : WORDS.split(" ")) {
            Check.due("README's text has " + word, text.matches("(?s).*\\b" + word + "\\b.*"), true);
        }
    }

    private static String fenced(String readme, String kind) {
        String head = "```" + kind + "\n";
        int from = readme.indexOf(head);
        int to = from < 0 ? -1 : readme.indexOf("```", from + head.length());
        Check.due("README shows " + kind, to >= 0, true);
        return to < 0 ? "" : readme.substring(from + head.length(), to);
    }

    /** The program's own loader takes the classes in the folder, not those that this test runs with. */
    private static String run(Path folder) throws IOException, ReflectiveOperationException {
        ByteArrayOutputStream bytes = new ByteArrayOutputStream();
        PrintStream before = System.out;
        URL[] urls = {folder.toUri().toURL()};
        try (URLClassLoader loader = new URLClassLoader(urls, ClassLoader.getPlatformClassLoader())) {
            System.setOut(new PrintStream(bytes, true, StandardCharsets.UTF_8));
            loader.loadClass("Example").getMethod("main", String[].class).invoke(null, (Object) new String[0]);
        } finally {
            System.setOut(before);
        }
        return bytes.toString(StandardCharsets.UTF_8);
    }

    private static void namesEachTest(String readme) throws IOException {
        try (Stream<Path> files = Files.list(Path.of("src/test/java"))) {
            for (Path file : files.filter(f -> f.toString().endsWith("Test.java")).toList()) {
                String name = file.getFileName().toString().replace(".java", "");
                Check.due("README names " + name, readme.contains("`" + name + "`"), true);
            }
        }
    }

    private static void clear(Path folder) throws IOException {
        try (Stream<Path> files = Files.walk(folder)) {
            for (Path file : files.sorted(Comparator.reverseOrder()).toList()) {
                Files.delete(file);
            }
        }
    }
}
