import java.io.IOException;
import java.lang.reflect.Constructor;
import java.lang.reflect.Field;
import java.lang.reflect.Method;
import java.lang.reflect.Modifier;
import java.nio.file.Files;
import java.nio.file.Path;
import java.util.ArrayList;
import java.util.List;
import java.util.regex.Matcher;
import java.util.regex.Pattern;

/** What stands under "The public face": each line of it, and nothing more. */
public final class FaceTest {
    private static final Pattern CALL = Pattern.compile("public (\\w+) (\\w+)\\(([^)]*)\\)(?: throws ([^;]*))?;");

    public static void main(String[] args) {
        Check.under("The public face");
        List<String> calls = new ArrayList<>();
        for (String line : lines()) {
            Matcher call = CALL.matcher(line);
            if (call.matches()) {
                calls.add(call.group(2));
                Check.sentence(line, () -> call(line, call));
            }
        }
        Check.sentence("public static final int NONE = -1;", FaceTest::constants);
        Check.sentence("public Saltwedge();", FaceTest::constructors);
        Check.sentence("public final class Saltwedge {", () -> nothingMore(calls));
        Check.end();
    }

    /** The lines of the face, by their ends. */
    private static List<String> lines() {
        String text = Doc.sections().getOrDefault("The public face", "").replaceAll("```(java)?", "");
        List<String> lines = new ArrayList<>();
        for (String line : text.split("(?<=[;{])")) {
            lines.add(line.trim());
        }
        return lines;
    }

    private static void call(String line, Matcher parts) {
        String words = line.substring(0, line.length() - 1) + " {";
        Check.dueTrue("the program's text has it", program().contains(words));
        for (Method method : Saltwedge.class.getMethods()) {
            if (method.getName().equals(parts.group(2))) {
                same(method, parts);
                return;
            }
        }
        Check.same("the class", parts.group(2), "no such method");
    }

    private static void same(Method method, Matcher parts) {
        Check.same("what it answers", parts.group(1), method.getReturnType().getName());
        Check.same("static", "false", String.valueOf(Modifier.isStatic(method.getModifiers())));
        List<String> types = new ArrayList<>();
        for (Class<?> type : method.getParameterTypes()) {
            types.add(type.getName());
        }
        Check.same("arguments", parts.group(3).replaceAll(" \\w+(?=,|$)", ""), String.join(", ", types));
        List<String> thrown = new ArrayList<>();
        for (Class<?> type : method.getExceptionTypes()) {
            thrown.add(type.getSimpleName());
        }
        String want = parts.group(4) == null ? "" : parts.group(4);
        Check.same("the throws clause", want, String.join(", ", thrown));
    }

    private static String program() {
        try {
            return Files.readString(Path.of("src/main/java/Saltwedge.java")).replaceAll("\\s+", " ");
        } catch (IOException e) {
            throw new IllegalStateException("the program cannot be read", e);
        }
    }

    private static void constants() {
        Check.due("NONE", -1, () -> Saltwedge.NONE);
        for (Field field : Saltwedge.class.getDeclaredFields()) {
            boolean isNone = field.getName().equals("NONE");
            Check.dueTrue(field.getName() + " is private, or NONE", Modifier.isPrivate(field.getModifiers()) != isNone);
            boolean constant = Modifier.isStatic(field.getModifiers()) && Modifier.isFinal(field.getModifiers());
            Check.dueTrue("NONE is a constant", constant || !isNone);
        }
    }

    private static void constructors() {
        Constructor<?>[] made = Saltwedge.class.getDeclaredConstructors();
        Check.due("how many constructors", 1, () -> made.length);
        Check.due("its arguments", 0, () -> made[0].getParameterCount());
        Check.dueTrue("it is public", Modifier.isPublic(made[0].getModifiers()));
        Check.due("what it is said to throw", 0, () -> made[0].getExceptionTypes().length);
    }

    private static void nothingMore(List<String> calls) {
        Check.due("calls of the face", 23, () -> calls.size());
        int methods = 0;
        for (Method method : Saltwedge.class.getDeclaredMethods()) {
            boolean isPrivate = Modifier.isPrivate(method.getModifiers());
            boolean isCall = calls.contains(method.getName());
            Check.dueTrue(method.getName() + " is private, or of the face", isPrivate != isCall);
            Check.dueTrue(method.getName() + " is private or public",
                    isPrivate || Modifier.isPublic(method.getModifiers()));
            methods += isPrivate ? 0 : 1;
        }
        final int all = methods;
        Check.due("public methods, those of one name too", calls.size(), () -> all);
        int kind = Saltwedge.class.getModifiers();
        Check.dueTrue("the class is public and final", Modifier.isPublic(kind) && Modifier.isFinal(kind));
        Check.same("what it extends", "java.lang.Object", Saltwedge.class.getSuperclass().getName());
        Check.due("what it implements", 0, () -> Saltwedge.class.getInterfaces().length);
        for (Class<?> inside : Saltwedge.class.getDeclaredClasses()) {
            Check.dueTrue(inside + " is static", Modifier.isStatic(inside.getModifiers()));
            Check.dueTrue(inside + " is not public", !Modifier.isPublic(inside.getModifiers()));
        }
    }
}
