import java.io.IOException;
import java.net.URL;
import java.net.URLClassLoader;
import java.nio.file.Files;
import java.nio.file.Path;
import java.util.List;
import java.util.stream.Stream;
import javax.tools.ToolProvider;

/** README.md holds: its example compiles and answers what its comments tell, and it names every test program. */
public final class ReadmeTests {
    private ReadmeTests() {
    }

    public static void main(String[] args) throws Exception {
        String readme = Files.readString(Path.of("README.md"));
        Checks.same("README.md tells the example's sum", 1, Checks.truth(example(readme).contains("// 5,")));
        Checks.same("the example's sum", 5L, runExample(readme));
        namesTests(readme);
        Checks.same("README.md tells how to run the tests", 1, Checks.truth(readme.contains("`bash .ci/run`")));
        Checks.end();
    }

    private static String example(String readme) {
        int begin = readme.indexOf("```java\n") + "```java\n".length();
        return readme.substring(begin, readme.indexOf("```", begin));
    }

    private static long runExample(String readme) throws Exception {
        Path classes = Files.createTempDirectory("readme");
        Path source = classes.resolve("Example.java");
        Files.writeString(source, "public final class Example {\n    public static long due() {\n" + example(readme)
            + "        return due;\n    }\n}\n");
        int wrong = ToolProvider.getSystemJavaCompiler().run(null, null, null,
            "-cp", System.getProperty("java.class.path"), "-d", classes.toString(), source.toString());
        Checks.same("the example compiles", 0, wrong);
        try (URLClassLoader loader = new URLClassLoader(new URL[] {classes.toUri().toURL()})) {
            return (long) loader.loadClass("Example").getMethod("due").invoke(null);
        } finally {
            delete(classes);
        }
    }

    private static void delete(Path directory) throws IOException {
        for (String name : List.of("Example.java", "Example.class", "")) {
            Files.deleteIfExists(directory.resolve(name));
        }
    }

    private static void namesTests(String readme) throws IOException {
        try (Stream<Path> files = Files.list(Path.of("src/test/java"))) {
            files.map(file -> file.getFileName().toString()).filter(name -> name.endsWith("Tests.java"))
                .forEach(name -> Checks.same("README.md names " + name, 1, Checks.truth(readme.contains(name))));
        }
    }
}
