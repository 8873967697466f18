import java.io.IOException;
import java.lang.reflect.Constructor;
import java.lang.reflect.Field;
import java.lang.reflect.Method;
import java.lang.reflect.Modifier;
import java.nio.file.Files;
import java.nio.file.Path;
import java.util.Set;
import java.util.TreeSet;
import java.util.regex.Matcher;
import java.util.regex.Pattern;

/** The class's face is the document's, and nothing else of it can be seen (LANGUAGE.md, rules 1, 2, 4, 6). */
public final class FaceTest {
    private static final Path DOCUMENT = Path.of("../shared/DOC.md");
    private static final Path PROGRAM = Path.of("src/main/java/BreadScribes.java");

    private FaceTest() {
    }

    public static void main(String[] args) throws IOException {
        face();
        hidden();
        nested();
        sizes();
        words();
        Check.end("FaceTest");
    }

    private static void face() throws IOException {
        Set<String> want = new TreeSet<>();
        Matcher line = Pattern.compile("    public (int|long|boolean) (\\w+)\\((.*)\\);").matcher(Files.readString(DOCUMENT));
        while (line.find()) {
            String types = line.group(3).replaceAll(" \\w+(,|$)", "$1").replace(" ", "");
            want.add(line.group(1) + " " + line.group(2) + "(" + types + ")");
        }
        Set<String> got = new TreeSet<>();
        for (Method method : BreadScribes.class.getDeclaredMethods()) {
            if (Modifier.isPublic(method.getModifiers())) {
                StringBuilder types = new StringBuilder();
                for (Class<?> type : method.getParameterTypes()) {
                    types.append(types.length() == 0 ? "" : ",").append(type.getName());
                }
                got.add(method.getReturnType() + " " + method.getName() + "(" + types + ")");
            }
        }
        Check.due("the document's methods", want.size(), 49);
        Check.due("the class's methods", got.toString(), want.toString());
        Check.due("public and final", Modifier.isPublic(BreadScribes.class.getModifiers())
                && Modifier.isFinal(BreadScribes.class.getModifiers()), true);
    }

    private static void hidden() {
        Set<String> open = new TreeSet<>();
        for (Method method : BreadScribes.class.getDeclaredMethods()) {
            if (Modifier.isPublic(method.getModifiers())) {
                open.add(method.getName());
            }
        }
        for (Method method : BreadScribes.class.getDeclaredMethods()) {
            boolean isOpen = Modifier.isPublic(method.getModifiers());
            Check.due(method + " is public or private", isOpen || Modifier.isPrivate(method.getModifiers()), true);
            Check.due(method + " bears a name of its own", isOpen || !open.contains(method.getName()), true);
        }
        for (Field field : BreadScribes.class.getDeclaredFields()) {
            boolean isConstant = field.getName().equals("NONE") && Modifier.isPublic(field.getModifiers());
            Check.due(field + " is private", isConstant || Modifier.isPrivate(field.getModifiers()), true);
        }
        Constructor<?>[] constructors = BreadScribes.class.getDeclaredConstructors();
        Check.due("constructors", constructors.length, 1);
        Check.due("its parameters", constructors[0].getParameterCount(), 0);
    }

    private static void nested() {
        for (Class<?> inner : BreadScribes.class.getDeclaredClasses()) {
            Check.due(inner + " is static", Modifier.isStatic(inner.getModifiers()), true);
            for (Field field : inner.getDeclaredFields()) {
                boolean isStatic = Modifier.isStatic(field.getModifiers());
                Check.due(field + " is final if static", !isStatic || Modifier.isFinal(field.getModifiers()), true);
            }
        }
    }

    /** Rule 11, and how much "some" may be. */
    private static void sizes() {
        Class<?>[] inner = BreadScribes.class.getDeclaredClasses();
        Check.due("classes, twelve at most", inner.length + 1 <= 12, true);
        sizesOf(BreadScribes.class);
        for (Class<?> one : inner) {
            sizesOf(one);
        }
    }

    private static void sizesOf(Class<?> one) {
        int fields = 0;
        for (Field field : one.getDeclaredFields()) {
            fields += Modifier.isStatic(field.getModifiers()) ? 0 : 1;
        }
        Check.due(one + ", twenty fields at most", fields <= 20, true);
        for (Method method : one.getDeclaredMethods()) {
            Check.due(method + ", seven parameters at most", method.getParameterCount() <= 7, true);
        }
    }

    private static void words() throws IOException {
        String program = Files.readString(PROGRAM).replaceAll("(?s)/\\*.*?\\*/", "").replaceAll("//.*", "");
        String never = "\\b(throw|try|catch|synchronized|assert|instanceof|native|transient|volatile|package|lambda|Object"
                + "|Exception|Error|System\\.out|System\\.in|Thread|Random|nanoTime|currentTimeMillis|\\w+Exact)\\b|->|::";
        Matcher found = Pattern.compile(never).matcher(program);
        Check.due("words that LANGUAGE.md rules out", found.find() ? found.group() : "none", "none");
        Matcher imports = Pattern.compile("import ([\\w.*]+);").matcher(program);
        while (imports.find()) {
            Check.due("import", imports.group(1), "java.util.Arrays");
        }
    }
}
