import java.lang.reflect.InvocationTargetException;
import java.lang.reflect.Method;
import java.util.ArrayList;
import java.util.Arrays;
import java.util.HashMap;
import java.util.List;
import java.util.Map;
import java.util.function.Supplier;

/**
 * A new Saltwedge whose calls are made by their names. It counts them, as nothing is promised behind the 512th, and
 * tells what was called when an answer is not as due.
 */
final class Trial {
    static final int NONE = Saltwedge.NONE;
    static final int MOST_CALLS = 512;
    private static final Map<String, Method> METHODS = new HashMap<>();
    private static final int[] FAR = {Integer.MIN_VALUE, Integer.MIN_VALUE + 1, Integer.MAX_VALUE - 1,
        Integer.MAX_VALUE};

    private final Saltwedge program = new Saltwedge();
    private final List<String> calls = new ArrayList<>();

    static {
        for (Method method : Saltwedge.class.getMethods()) {
            METHODS.put(method.getName(), method);
        }
    }

    /** One SECTION with so much WATER in UP alone, behind a closed barrier. */
    static Trial fresh(int up) {
        return new Trial().tell("barrier", 0, 0).tell("section", 1, up, 0, 0);
    }

    /** The answer as a text; that of a call that throws is the exception's name. */
    String ask(String call, int... arguments) {
        calls.add(name(call, arguments));
        if (calls.size() > MOST_CALLS) {
            throw new IllegalStateException("more than 512 calls of one object");
        }
        Object[] boxed = Arrays.stream(arguments).boxed().toArray();
        try {
            Object answer = METHODS.get(call).invoke(program, boxed);
            return answer instanceof Boolean ? ((Boolean) answer ? "1" : "0") : String.valueOf(answer);
        } catch (InvocationTargetException e) {
            return e.getCause().getClass().getSimpleName();
        } catch (IllegalAccessException e) {
            throw new IllegalStateException(call + " cannot be called", e);
        }
    }

    /** A call whose answer does not matter here, but for its being one. */
    Trial tell(String call, int... arguments) {
        String answer = ask(call, arguments);
        if (answer.endsWith("Exception")) {
            Check.same(story(), "an answer", answer);
        }
        return this;
    }

    /** So many hours, which may be more than one call lets go by. */
    Trial hours(int count) {
        for (int left = count; left > 0; left -= 48) {
            tell("pass", Math.min(left, 48));
        }
        return this;
    }

    Trial due(long want, String call, int... arguments) {
        return same(String.valueOf(want), call, arguments);
    }

    Trial index(String call, int... arguments) {
        return same("IndexOutOfBoundsException", call, arguments);
    }

    Trial argument(String call, int... arguments) {
        return same("IllegalArgumentException", call, arguments);
    }

    Trial state(String call, int... arguments) {
        return same("IllegalStateException", call, arguments);
    }

    /** What is told of one by a call with a number and a "what" from 0 on. */
    Trial row(String call, int number, long... wants) {
        for (int what = 0; what < wants.length; what++) {
            due(wants[what], call, number, what);
        }
        return this;
    }

    /** The SEA of an hour and of those behind it. */
    Trial seas(int hour, long... wants) {
        for (int i = 0; i < wants.length; i++) {
            due(wants[i], "sea", hour + i);
        }
        return this;
    }

    private Trial same(String want, String call, int... arguments) {
        String answer = ask(call, arguments);
        Check.same(want.equals(answer) ? call : story(), want, answer);
        return this;
    }

    private String story() {
        int skipped = Math.max(0, calls.size() - 40);
        String gap = skipped > 0 ? ".. " + skipped + " calls .. " : "";
        return gap + String.join(" ", calls.subList(skipped, calls.size()));
    }

    static String name(String call, int... arguments) {
        return call + Arrays.toString(arguments).replace('[', '(').replace(']', ')');
    }

    /** The least and the greatest value of an argument are taken, one beyond either is not, nor far ones. */
    static void range(Supplier<Trial> begin, int at, int least, int most, String call, int... arguments) {
        bounds(begin, at, least, most, "IllegalArgumentException", call, arguments);
    }

    /** The same for an argument that is the number of one of so many. */
    static void numbers(Supplier<Trial> begin, int at, int count, String call, int... arguments) {
        bounds(begin, at, 0, count - 1, "IndexOutOfBoundsException", call, arguments);
    }

    private static void bounds(Supplier<Trial> begin, int at, int least, int most, String thrown, String call,
            int... arguments) {
        for (int value : new int[] {least, most}) {
            begin.get().tell(call, with(arguments, at, value));
        }
        for (int value : new int[] {least - 1, most + 1}) {
            begin.get().same(thrown, call, with(arguments, at, value));
        }
        for (int value : FAR) {
            begin.get().same(thrown, call, with(arguments, at, value));
        }
    }

    private static int[] with(int[] arguments, int at, int value) {
        int[] changed = arguments.clone();
        changed[at] = value;
        return changed;
    }
}
