import java.io.IOException;
import java.net.URL;
import java.net.URLClassLoader;
import java.nio.file.Files;
import java.nio.file.Path;
import javax.tools.ToolProvider;

/**
 * The sentence of promise 5 on more than 400 BYTES. No picture needs that many (341 are the most, over all rows of u
 * from 0 to 8160 that the two COUNTS could be given), so EncodeLimitRun is run with a copy of the class in which the
 * limit alone is another: eight.
 */
public final class EncodeLimitTest {
    private static final String LIMIT = "MOST_BYTES = 400;";
    private static final String OTHER_LIMIT = "MOST_BYTES = 8;";
    private static final String RUN = "src/test/java/EncodeLimitRun.java";

    public static void main(String[] args) throws Exception {
        Path place = Files.createTempDirectory("limit");
        boolean compiled = compile(place);
        if (compiled) {
            URL[] classes = {place.toUri().toURL()};
            // Not the parent of this class: it knows the class with the limit of the document.
            try (URLClassLoader loader = new URLClassLoader(classes, ClassLoader.getPlatformClassLoader())) {
                loader.loadClass("EncodeLimitRun").getMethod("main", String[].class).invoke(null, (Object) args);
            }
        }
        System.exit(compiled ? 0 : 1);
    }

    private static boolean compile(Path place) throws IOException {
        String source = Files.readString(Path.of("src/main/java/TileForge.java"));
        if (source.split(LIMIT, -1).length != 2) {
            System.out.println("the class does not hold its limit in one place: " + LIMIT);
            return false;
        }
        Path copy = place.resolve("TileForge.java");
        Files.writeString(copy, source.replace(LIMIT, OTHER_LIMIT));
        String classes = place.toString();
        return ToolProvider.getSystemJavaCompiler().run(null, null, null, "-encoding", "UTF-8", "-classpath", classes,
                "-sourcepath", "src/test/java", "-d", classes, copy.toString(), RUN) == 0;
    }
}
