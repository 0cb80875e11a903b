import java.io.IOException;
import java.lang.reflect.Constructor;
import java.lang.reflect.Field;
import java.lang.reflect.Method;
import java.lang.reflect.Modifier;
import java.nio.file.Files;
import java.nio.file.Path;
import java.util.ArrayList;
import java.util.Arrays;
import java.util.Collections;
import java.util.List;
import java.util.regex.Matcher;
import java.util.regex.Pattern;

/** The face is the document's and nothing else (LANGUAGE.md, rule 1). */
public final class FaceTest {

    public static void main(String[] args) throws IOException {
        Path root = Path.of(args.length > 0 ? args[0] : ".");
        List<String> face = faceOfDocument(Files.readString(root.resolve("../shared/DOC.md")));
        Due.is("methods in the document's face", face.size(), 52);
        Collections.sort(face);
        Due.is("public methods", publicMethods(), face);
        nothingElseIsSeen(face);
        Due.end("FaceTest");
    }

    private static List<String> faceOfDocument(String document) {
        List<String> found = new ArrayList<>();
        Pattern line = Pattern.compile("^    public (\\w+ \\w+\\(.*\\).*);$", Pattern.MULTILINE);
        Matcher matcher = line.matcher(document);
        while (matcher.find()) {
            found.add(matcher.group(1).replaceAll("\\b(int|boolean) \\w+(?=[,)])", "$1"));
        }
        return found;
    }

    private static List<String> publicMethods() {
        List<String> found = new ArrayList<>();
        for (Method method : Periodcard.class.getDeclaredMethods()) {
            if (!Modifier.isPrivate(method.getModifiers())) {
                found.add(signature(method));
            }
        }
        Collections.sort(found);
        return found;
    }

    private static String signature(Method method) {
        String text = method.getReturnType().getSimpleName() + " " + method.getName()
            + "(" + names(method.getParameterTypes()) + ")";
        Class<?>[] thrown = method.getExceptionTypes();
        return thrown.length == 0 ? text : text + " throws " + names(thrown);
    }

    private static String names(Class<?>[] types) {
        List<String> found = new ArrayList<>();
        for (Class<?> type : types) {
            found.add(type.getSimpleName());
        }
        return String.join(", ", found);
    }

    private static void nothingElseIsSeen(List<String> face) {
        Due.is("the class", Modifier.toString(Periodcard.class.getModifiers()), "public final");
        Constructor<?>[] constructors = Periodcard.class.getDeclaredConstructors();
        Due.is("constructors", Arrays.toString(constructors), "[public Periodcard()]");
        for (Field field : Periodcard.class.getDeclaredFields()) {
            int modifiers = field.getModifiers();
            Due.is(field + " is private", Modifier.isPrivate(modifiers), true);
            Due.is(field + " is final if static", !Modifier.isStatic(modifiers) || Modifier.isFinal(modifiers), true);
        }
        List<String> faceNames = new ArrayList<>();
        for (String method : face) {
            faceNames.add(method.replaceAll("^\\w+ (\\w+)\\(.*$", "$1"));
        }
        List<Class<?>> all = new ArrayList<>(Arrays.asList(Periodcard.class.getDeclaredClasses()));
        for (Class<?> inside : all) {
            Due.is(inside + " is private and static", inside.getModifiers() & (Modifier.PRIVATE | Modifier.STATIC),
                Modifier.PRIVATE | Modifier.STATIC);
        }
        all.add(Periodcard.class);
        for (Class<?> one : all) {
            for (Method method : one.getDeclaredMethods()) {
                boolean isPublic = Modifier.isPublic(method.getModifiers());
                Due.is(method + " bears its own name", !isPublic && faceNames.contains(method.getName()), false);
            }
        }
    }
}
