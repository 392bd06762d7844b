import java.io.ByteArrayOutputStream;
import java.io.File;
import java.io.IOException;
import java.io.PrintStream;
import java.net.URL;
import java.net.URLClassLoader;
import java.nio.file.Files;
import java.nio.file.Path;
import java.util.Set;
import java.util.TreeSet;
import java.util.regex.Matcher;
import java.util.regex.Pattern;
import javax.tools.JavaCompiler;
import javax.tools.ToolProvider;

/** README.md: its program prints what it says, and its test files are those that there are. */
final class ReadmeTests {
    private ReadmeTests() {
    }

    static void run(Path readme, Path tests) throws Exception {
        String text = Files.readString(readme);
        Check.part("README.md");
        Check.due("what its program prints", printedBy(block(text, "java")), block(text, "text"));
        Check.due("calls that it names and that there are not", strangeCalls(text), Set.of());
        Set<String> files = testFiles(tests);
        Check.due("test files that it names", namesIn(text, "`(\\w+Tests)`"), files);
        String all = Files.readString(tests.resolve("AllTests.java"));
        files.remove("AllTests");
        Check.due("test files that are run", namesIn(all, "(\\w+Tests)\\.run\\("), files);
    }

    private static String block(String text, String kind) {
        Matcher found = Pattern.compile("(?ms)^```" + kind + "\n(.*?)^```$").matcher(text);
        return found.find() ? found.group(1) : "";
    }

    /** What a class Example prints, or what kept it from that. */
    private static String printedBy(String program) throws Exception {
        Path folder = Files.createTempDirectory("readme");
        try {
            Path source = folder.resolve("Example.java");
            Files.writeString(source, program);
            JavaCompiler compiler = ToolProvider.getSystemJavaCompiler();
            int wrong = compiler.run(null, null, null, "-cp", System.getProperty("java.class.path"),
                    "-d", folder.toString(), source.toString());
            return wrong == 0 ? printedFrom(folder) : "it does not compile";
        } finally {
            for (File file : folder.toFile().listFiles()) {
                file.delete();
            }
            folder.toFile().delete();
        }
    }

    private static String printedFrom(Path folder) throws Exception {
        PrintStream real = System.out;
        ByteArrayOutputStream printed = new ByteArrayOutputStream();
        try (URLClassLoader loader = new URLClassLoader(new URL[] {folder.toUri().toURL()})) {
            System.setOut(new PrintStream(printed, true));
            loader.loadClass("Example").getMethod("main", String[].class)
                    .invoke(null, (Object) new String[0]);
        } finally {
            System.setOut(real);
        }
        return printed.toString().replace(System.lineSeparator(), "\n");
    }

    private static Set<String> namesIn(String text, String pattern) {
        Set<String> names = new TreeSet<>();
        Matcher found = Pattern.compile(pattern).matcher(text);
        while (found.find()) {
            names.add(found.group(1));
        }
        return names;
    }

    private static Set<String> strangeCalls(String text) {
        Set<String> names = namesIn(text, "`([a-z]\\w*[A-Z]\\w*|feed|truncate|undo)[`(]");
        for (java.lang.reflect.Method method : DateHem.class.getMethods()) {
            names.remove(method.getName());
        }
        return names;
    }

    private static Set<String> testFiles(Path tests) throws IOException {
        Set<String> names = new TreeSet<>();
        for (String name : tests.toFile().list()) {
            if (name.endsWith("Tests.java")) {
                names.add(name.replace(".java", ""));
            }
        }
        return names;
    }
}
