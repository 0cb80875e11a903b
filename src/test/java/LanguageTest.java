import java.io.IOException;
import java.lang.reflect.Field;
import java.lang.reflect.Method;
import java.lang.reflect.Modifier;
import java.nio.charset.StandardCharsets;
import java.nio.file.Files;
import java.nio.file.Path;
import java.util.ArrayList;
import java.util.Arrays;
import java.util.HashMap;
import java.util.HashSet;
import java.util.List;
import java.util.Map;
import java.util.Set;
import java.util.regex.Matcher;
import java.util.regex.Pattern;

/** The rules of LANGUAGE.md that the source of the class itself shows. */
public final class LanguageTest {
    private static final String[] RULED_OUT = {"import", "package", "try", "catch", "finally", "synchronized",
        "assert", "protected", "Integer", "Object", "double", "float", "equals", "hashCode", "instanceof"};
    /** What the class uses of the library; another call needs a look at rule 4. */
    private static final Set<String> LIBRARY_CALLS = Set.of("append", "reverse", "toString", "min");
    private static final Set<String> MADE = Set.of("Span", "Day", "StringBuilder", "IndexOutOfBoundsException",
        "IllegalArgumentException");
    private static final Set<String> LIKE_CALLS = Set.of("if", "for", "while", "switch", "return", "Periodcard");
    private static final Set<Class<?>> CONSTANTS = Set.of(int.class, long.class);

    private static final int MOST_LINES = 60;
    private static final int MOST_OPEN_CALLS = 8;
    private static final int MOST_CLASSES = 12;
    private static final int MOST_FIELDS = 20;
    private static final int MOST_PARAMETERS = 7;

    private static final Pattern METHOD = Pattern.compile(
        "(?m)^(    |        )(?:public|private) (?:static )?(?:\\w+ )?(\\w+)\\([^;{]*\\{\n(?:\\1 .*\n|\n)*?\\1\\}$");
    private static final Pattern CALL = Pattern.compile("(?<!new )\\b(\\w+)\\(");

    public static void main(String[] args) throws IOException {
        Path root = Path.of(args.length > 0 ? args[0] : ".");
        byte[] bytes = Files.readAllBytes(root.resolve("src/main/java/Periodcard.java"));
        String source = new String(bytes, StandardCharsets.ISO_8859_1);
        Due.is("signs are ASCII", source.chars().allMatch(c -> c < 127), true);
        String code = source.replaceAll("(?s)/\\*.*?\\*/", "").replaceAll("//[^\n]*", "");
        words(code);
        String bare = code.replaceAll("\"[^\"\n]*\"|'[^'\n]*'", "0");
        made(bare);
        calls(bare);
        classes();
        Due.end("LanguageTest");
    }

    private static void words(String code) {
        for (String word : RULED_OUT) {
            Due.is("no " + word, Pattern.compile("\\b" + word + "\\b").matcher(code).find(), false);
        }
        Due.is("no lambda", code.contains("->"), false);
        Due.is("no method reference", code.contains("::"), false);
        Due.is("no joining of texts by +", Pattern.compile("\"\\s*\\+|\\+\\s*\"").matcher(code).find(), false);
    }

    private static void made(String bare) {
        Matcher matcher = Pattern.compile("\\bnew (\\w+)").matcher(bare);
        while (matcher.find()) {
            Due.is("made: " + matcher.group(1), MADE.contains(matcher.group(1)), true);
        }
        Matcher thrown = Pattern.compile("\\bthrow\\b(?! new I\\w+Exception\\(0\\);)").matcher(bare);
        Due.is("each throw makes an exception with a written text", thrown.find(), false);
    }

    /** Calls are followed by name alone, so a chain may be found longer than it is, but not shorter. */
    private static void calls(String bare) {
        Map<String, Set<String>> called = new HashMap<>();
        Matcher method = METHOD.matcher(bare);
        while (method.find()) {
            String name = method.group(2);
            long lines = method.group().lines().count();
            Due.is(name + " is short", lines <= MOST_LINES, true);
            Set<String> from = called.computeIfAbsent(name, key -> new HashSet<>());
            Matcher call = CALL.matcher(method.group().substring(method.group().indexOf('{')));
            while (call.find()) {
                from.add(call.group(1));
            }
        }
        Due.is("methods were found", called.keySet().containsAll(methodNames()), true);
        for (Set<String> some : called.values()) {
            for (String one : some) {
                boolean isKnown = called.containsKey(one) || LIBRARY_CALLS.contains(one) || LIKE_CALLS.contains(one);
                Due.is("a call of " + one + " is allowed", isKnown, true);
            }
        }
        for (String name : called.keySet()) {
            int open = open(called, name, new ArrayList<>());
            Due.is(open + " calls stand open from " + name, open <= MOST_OPEN_CALLS, true);
        }
    }

    /** The library's calls are not counted; a call that comes back to itself counts as endless. */
    private static int open(Map<String, Set<String>> called, String name, List<String> above) {
        if (above.contains(name)) {
            return 1000;
        }
        above.add(name);
        int most = 0;
        for (String one : called.get(name)) {
            if (called.containsKey(one)) {
                most = Math.max(most, open(called, one, above));
            }
        }
        above.remove(above.size() - 1);
        return most + 1;
    }

    private static List<Class<?>> all() {
        List<Class<?>> all = new ArrayList<>(Arrays.asList(Periodcard.class.getDeclaredClasses()));
        all.add(Periodcard.class);
        return all;
    }

    private static Set<String> methodNames() {
        Set<String> names = new HashSet<>();
        for (Class<?> one : all()) {
            for (Method method : one.getDeclaredMethods()) {
                names.add(method.getName());
            }
        }
        return names;
    }

    private static void classes() {
        Due.is("few classes", all().size() <= MOST_CLASSES, true);
        for (Class<?> one : all()) {
            int fields = 0;
            for (Field field : one.getDeclaredFields()) {
                boolean isStatic = Modifier.isStatic(field.getModifiers());
                Due.is(field + " is no static state", !isStatic || Modifier.isFinal(field.getModifiers())
                    && CONSTANTS.contains(field.getType()), true);
                fields += isStatic ? 0 : 1;
            }
            Due.is(one + " has few fields", fields <= MOST_FIELDS, true);
            for (Method method : one.getDeclaredMethods()) {
                Due.is(method + " has few parameters", method.getParameterCount() <= MOST_PARAMETERS, true);
                Due.is(method + " was written", method.isSynthetic(), false);
            }
        }
    }
}
