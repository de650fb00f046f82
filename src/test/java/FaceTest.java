import java.lang.reflect.Constructor;
import java.lang.reflect.Field;
import java.lang.reflect.Method;
import java.lang.reflect.Modifier;
import java.util.Arrays;
import java.util.Map;
import java.util.TreeMap;

/** The public face is that of the document, and nothing more. */
public final class FaceTest {
    private static final String INDEX = "IndexOutOfBoundsException";
    private static final String ARGUMENT = "IllegalArgumentException";
    private static final String STATE = "IllegalStateException";

    public static void main(String[] args) {
        Map<String, String> want = new TreeMap<>();
        want.put("turn", face("int", 4, ARGUMENT, STATE));
        want.put("mean", face("int", 1, ARGUMENT));
        want.put("surge", face("int", 3, ARGUMENT, STATE));
        want.put("river", face("int", 2, ARGUMENT));
        want.put("barrier", face("int", 2, ARGUMENT));
        want.put("section", face("int", 4, ARGUMENT, STATE));
        want.put("intake", face("int", 5, INDEX, ARGUMENT, STATE));
        want.put("oysters", face("int", 3, INDEX, ARGUMENT, STATE));
        want.put("permit", face("int", 2, INDEX, ARGUMENT));
        want.put("whyNot", face("int", 2, INDEX, ARGUMENT));
        want.put("dredge", face("int", 3, INDEX, ARGUMENT, STATE));
        want.put("pass", face("int", 1, ARGUMENT, STATE));
        want.put("now", face("int", 0));
        want.put("sea", face("int", 1, ARGUMENT));
        want.put("ofSection", face("int", 2, INDEX, ARGUMENT));
        want.put("ofSectionAnew", face("int", 2, INDEX, ARGUMENT));
        want.put("ofIntake", face("int", 2, INDEX, ARGUMENT));
        want.put("isClosed", face("boolean", 1, INDEX));
        want.put("closures", face("int", 0));
        want.put("closure", face("int", 2, INDEX, ARGUMENT));
        want.put("intrusion", face("int", 1, ARGUMENT));
        want.put("window", face("int", 2, ARGUMENT, STATE));
        want.put("sum", face("long", 1, ARGUMENT));

        Map<String, String> got = new TreeMap<>();
        int methods = 0;
        for (Method m : Saltwedge.class.getDeclaredMethods()) {
            if (Modifier.isPrivate(m.getModifiers())) {
                Check.dueTrue("private " + m.getName() + " bears a name of its own", !want.containsKey(m.getName()));
                continue;
            }
            methods++;
            Check.dueTrue(m.getName() + " is public", Modifier.isPublic(m.getModifiers()));
            Check.dueTrue(m.getName() + " is not static", !Modifier.isStatic(m.getModifiers()));
            for (Class<?> p : m.getParameterTypes()) {
                Check.same("parameter of " + m.getName(), "int", p.getName());
            }
            String[] thrown = new String[m.getExceptionTypes().length];
            for (int i = 0; i < thrown.length; i++) {
                thrown[i] = m.getExceptionTypes()[i].getSimpleName();
            }
            got.put(m.getName(), face(m.getReturnType().getName(), m.getParameterCount(), thrown));
        }
        Check.same("the methods", want.toString(), got.toString());
        Check.due("how many methods", want.size(), () -> got.size());
        final int all = methods;
        Check.due("how many methods, overloads too", want.size(), () -> all);

        for (Field f : Saltwedge.class.getDeclaredFields()) {
            boolean isNone = f.getName().equals("NONE");
            Check.dueTrue(f.getName() + " is private, or NONE", Modifier.isPrivate(f.getModifiers()) != isNone);
        }
        Check.due("NONE", -1, () -> Saltwedge.NONE);
        Constructor<?>[] made = Saltwedge.class.getDeclaredConstructors();
        Check.due("how many constructors", 1, () -> made.length);
        Check.due("arguments of the constructor", 0, () -> made[0].getParameterCount());
        Check.dueTrue("the constructor is public", Modifier.isPublic(made[0].getModifiers()));
        Check.dueTrue("the class is final", Modifier.isFinal(Saltwedge.class.getModifiers()));
        Check.dueTrue("the class is public", Modifier.isPublic(Saltwedge.class.getModifiers()));
        Check.due("superclass and interfaces", 0, () -> Saltwedge.class.getInterfaces().length);
        for (Class<?> inside : Saltwedge.class.getDeclaredClasses()) {
            Check.dueTrue(inside + " is static", Modifier.isStatic(inside.getModifiers()));
            Check.dueTrue(inside + " is not public", !Modifier.isPublic(inside.getModifiers()));
        }
        Check.end();
    }

    private static String face(String answer, int count, String... thrown) {
        return answer + "/" + count + Arrays.toString(thrown);
    }
}
