import java.io.IOException;
import java.net.URL;
import java.net.URLClassLoader;
import java.nio.file.Files;
import java.nio.file.Path;
import java.util.stream.Stream;
import javax.tools.ToolProvider;

/** README.md: what it shows of the use of the class compiles, and answers as it says there. */
public final class ReadmeTest extends Checks {
    private static final String BEGIN = "```java\n";
    private static final String END = "```\n";

    private static String shownUse(String readme) {
        int from = readme.indexOf(BEGIN) + BEGIN.length();
        return readme.substring(from, readme.indexOf(END, from));
    }

    /** The object that is left when all that README.md shows has been done. */
    private static HalfGames useAsShown(String shown) throws IOException, ReflectiveOperationException {
        Path dir = Files.createTempDirectory("readme");
        Path file = dir.resolve("Shown.java");
        Files.writeString(file, "public class Shown { public static HalfGames use() {\n" + shown + "return x; } }\n");
        String path = System.getProperty("java.class.path");
        int code = ToolProvider.getSystemJavaCompiler().run(null, null, null, "-cp", path, "-d", dir.toString(),
                file.toString());
        due("javac of what README.md shows", code, 0);
        try (URLClassLoader loader = new URLClassLoader(new URL[] {dir.toUri().toURL()})) {
            return (HalfGames) loader.loadClass("Shown").getMethod("use").invoke(null);
        } finally {
            Files.deleteIfExists(dir.resolve("Shown.class"));
            Files.delete(file);
            Files.delete(dir);
        }
    }

    private static void dueTold(String readme, Path dir) throws IOException {
        try (Stream<Path> files = Files.list(dir)) {
            for (Path file : files.toList()) {
                String name = file.getFileName().toString().replace(".java", "");
                due(name + " is told", readme.contains("`" + name + "`") ? 1 : 0, 1);
            }
        }
    }

    public static void main(String[] args) throws IOException, ReflectiveOperationException {
        about("README.md");
        String readme = Files.readString(Path.of("README.md"));
        HalfGames x = useAsShown(shownUse(readme));
        due("PLACES", x.count(1), 3);
        due("the plan, half and half", x.value(), 15 * WHOLE);
        due("the best act", x.answer(0), 1);
        due("ROUNDS", x.bound(2), 10);
        due("UPPER, added over all rounds", x.bound(1), 200 * WHOLE);
        due("LOWER, added over all rounds", x.bound(0), 190 * WHOLE);
        due("READ anew, the first plan", read(x, "one 0 2 end 10 end 20;"), 3);
        due("value() at first", x.value(), 10 * WHOLE);
        due("best(0, 1) at first", x.best(0, 1), 10 * WHOLE);
        dueTold(readme, Path.of("src/test/java"));
        dueTold(readme, Path.of("src/test/support"));
        due(".ci/run is told in README.md", readme.contains(".ci/run") ? 1 : 0, 1);
        finish();
    }
}
