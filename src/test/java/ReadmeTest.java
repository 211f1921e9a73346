import java.io.IOException;
import java.net.URL;
import java.net.URLClassLoader;
import java.nio.file.Files;
import java.nio.file.Path;
import javax.tools.ToolProvider;

/** README.md: its example compiles as it stands there and answers what its comments say. */
public final class ReadmeTest {
    private static final String ANSWERS = "ended, told, first, firstPc, firstNumber, second, secondNumber";
    private static final int[] WANT = {1, 2, 4, 12, 32788, 8, 32784};

    public static void main(String[] args) throws IOException, ReflectiveOperationException {
        Path folder = Files.createTempDirectory("readme");
        Path file = folder.resolve("Example.java");
        Files.writeString(file, "public final class Example { public static int[] answers() {\n" + example()
                + "return new int[] {" + ANSWERS + "}; } }\n");
        int refused = ToolProvider.getSystemJavaCompiler().run(null, null, null, "-cp",
                System.getProperty("java.class.path"), "-d", folder.toString(), file.toString());
        Check.due("compiling the example", refused, 0);
        if (refused == 0) {
            compare(folder);
        }
        Files.deleteIfExists(folder.resolve("Example.class"));
        Files.delete(file);
        Files.delete(folder);
        Check.finish();
    }

    private static String example() throws IOException {
        String text = Files.readString(Path.of("README.md"));
        String fence = "```java\n";
        int from = text.indexOf(fence);
        Check.due("README.md has an example", from >= 0 ? 1 : 0, 1);
        return from < 0 ? "" : text.substring(from + fence.length(), text.indexOf("```", from + fence.length()));
    }

    private static void compare(Path folder) throws IOException, ReflectiveOperationException {
        try (URLClassLoader loader = new URLClassLoader(new URL[] {folder.toUri().toURL()})) {
            int[] got = (int[]) loader.loadClass("Example").getMethod("answers").invoke(null);
            String[] names = ANSWERS.split(", ");
            for (int i = 0; i < WANT.length; i++) {
                Check.due("README.md: " + names[i], got[i], WANT[i]);
            }
        }
    }
}
