import java.io.IOException;
import java.lang.reflect.Method;
import java.lang.reflect.Modifier;
import java.net.URL;
import java.net.URLClassLoader;
import java.nio.file.Files;
import java.nio.file.Path;
import java.util.List;
import java.util.regex.Matcher;
import java.util.regex.Pattern;
import javax.tools.ToolProvider;

/** What README.md shows is so: its Java is compiled and run, and what stands behind a call is what it answers. */
public final class ReadmeTest {
    private static final Path README = Path.of("README.md");
    private static final String BEGIN = "BreadScribes x = new BreadScribes();";
    private static final Pattern SHOWN = Pattern.compile("(x\\..*);\\s*// (-?\\d+|true|false)\\b.*");

    private ReadmeTest() {
    }

    public static void main(String[] args) throws IOException, ReflectiveOperationException {
        String text = Files.readString(README);
        Path folder = Files.createTempDirectory("readme");
        try {
            for (Object one : (List<?>) compiled(source(text), folder).getMethod("answers").invoke(null)) {
                String[] answer = (String[]) one;
                Check.due("README.md: " + answer[0], answer[1], answer[2]);
            }
        } finally {
            Files.deleteIfExists(folder.resolve("Readme.java"));
            Files.deleteIfExists(folder.resolve("Readme.class"));
            Files.delete(folder);
        }
        calls(text);
        Check.end("ReadmeTest");
    }

    /** Each piece of Java in a block of its own, but for the function that all may use. */
    private static String source(String text) {
        StringBuilder functions = new StringBuilder();
        StringBuilder all = new StringBuilder();
        Matcher piece = Pattern.compile("```java\n(.*?)```", Pattern.DOTALL).matcher(text);
        int pieces = 0;
        for (; piece.find(); pieces++) {
            if (piece.group(1).startsWith("static ")) {
                functions.append(piece.group(1));
            } else {
                all.append("{\n");
                piece.group(1).lines().forEach(line -> all.append(kept(line)).append('\n'));
                all.append("}\n");
            }
        }
        Check.due("pieces of Java in README.md, five at least", pieces >= 5, true);
        return "public final class Readme {\n" + functions + "public static java.util.List<String[]> answers() {\n"
                + "java.util.List<String[]> all = new java.util.ArrayList<>();\n" + all + "return all;\n}\n}\n";
    }

    /** The line, or where it shows a call: the call, its answer and the one that is shown, kept in a list. */
    private static String kept(String line) {
        Matcher shown = SHOWN.matcher(line);
        if (!shown.matches()) {
            Check.due("a line of README.md that shows no answer", line, BEGIN);
            return line;
        }
        String call = shown.group(1).replace("\\", "\\\\").replace("\"", "\\\"");
        return "all.add(new String[] {\"" + call + "\", \"\" + " + shown.group(1) + ", \"" + shown.group(2) + "\"});";
    }

    private static Class<?> compiled(String source, Path folder) throws IOException, ReflectiveOperationException {
        Path file = folder.resolve("Readme.java");
        Files.writeString(file, source);
        int code = ToolProvider.getSystemJavaCompiler().run(null, null, null, "-proc:none", "-cp",
                System.getProperty("java.class.path"), "-d", folder.toString(), file.toString());
        Check.due("README.md compiles", code, 0);
        URL[] places = {folder.toUri().toURL()};
        try (URLClassLoader loader = new URLClassLoader(places, ReadmeTest.class.getClassLoader())) {
            return loader.loadClass("Readme");
        }
    }

    /** Each call of the class is named. */
    private static void calls(String text) {
        for (Method method : BreadScribes.class.getDeclaredMethods()) {
            if (Modifier.isPublic(method.getModifiers())) {
                Check.due("README.md names " + method.getName(), text.contains("`" + method.getName() + "`"), true);
            }
        }
    }
}
