import java.io.IOException;
import java.lang.reflect.InvocationTargetException;
import java.lang.reflect.Method;
import java.lang.reflect.Modifier;
import java.nio.file.DirectoryStream;
import java.nio.file.Files;
import java.nio.file.Path;
import java.util.regex.Matcher;
import java.util.regex.Pattern;

/** README.md tells every call and every test, and its example answers what stands there. */
public final class ReadmeTest {
    private static final Pattern EXAMPLE = Pattern.compile("(?s)```java\n(.*?)```");
    private static final Pattern CALL = Pattern.compile("x\\.(\\w+)\\((.*)\\);\\s+// (.*)");

    public static void main(String[] args) throws IOException {
        Path root = Path.of(args.length > 0 ? args[0] : ".");
        String page = Files.readString(root.resolve("README.md"));
        examples(page);
        calls(page);
        tests(page, root.resolve("src/test/java"));
        Due.end("ReadmeTest");
    }

    private static void examples(String page) {
        Matcher example = EXAMPLE.matcher(page);
        Due.is("there is an example", example.find(), true);
        Periodcard x = null;
        for (String line : example.group(1).split("\n")) {
            Matcher call = CALL.matcher(line);
            if (line.equals("Periodcard x = new Periodcard();")) {
                x = new Periodcard();
            } else if (!line.isBlank()) {
                Due.is("a call and its answer: " + line, call.matches(), true);
                Due.is(line, answer(x, call.group(1), call.group(2)), call.group(3));
            }
        }
    }

    private static String answer(Periodcard x, String name, String arguments) {
        for (Method method : Periodcard.class.getMethods()) {
            if (method.getDeclaringClass() == Periodcard.class && method.getName().equals(name)) {
                return answer(x, method, arguments.isEmpty() ? new String[0] : arguments.split(", "));
            }
        }
        return "no such call";
    }

    private static String answer(Periodcard x, Method method, String[] arguments) {
        Object[] values = new Object[arguments.length];
        for (int n = 0; n < values.length; n++) {
            boolean isFlag = arguments[n].equals("true") || arguments[n].equals("false");
            values[n] = isFlag ? (Object) Boolean.valueOf(arguments[n]) : Integer.valueOf(arguments[n]);
        }
        try {
            Object got = method.invoke(x, values);
            return got instanceof String ? "\"" + got + "\"" : got.toString();
        } catch (InvocationTargetException e) {
            return e.getCause().getClass().getSimpleName();
        } catch (IllegalAccessException | IllegalArgumentException e) {
            return "no call with such arguments";
        }
    }

    private static void calls(String page) {
        for (Method method : Periodcard.class.getDeclaredMethods()) {
            if (Modifier.isPublic(method.getModifiers())) {
                Due.is("the page names " + method.getName(), page.contains("`" + method.getName() + "`"), true);
            }
        }
    }

    private static void tests(String page, Path folder) throws IOException {
        try (DirectoryStream<Path> tests = Files.newDirectoryStream(folder, "*Test.java")) {
            for (Path test : tests) {
                String name = test.getFileName().toString().replace(".java", "");
                Due.is("the page names " + name, page.contains("| `" + name + "` |"), true);
            }
        }
    }
}
