import java.util.function.LongSupplier;

/** Compares answers with what is due, and counts what is not as due. */
final class Check {
    private static int asked = 0;
    private static int wrong = 0;

    private Check() {
    }

    static void due(String call, long want, LongSupplier got) {
        String answer;
        try {
            answer = String.valueOf(got.getAsLong());
        } catch (RuntimeException e) {
            answer = e.getClass().getName();
        }
        same(call, String.valueOf(want), answer);
    }

    static void dueTrue(String call, boolean holds) {
        same(call, "true", String.valueOf(holds));
    }

    static void index(String call, LongSupplier got) {
        thrown(call, IndexOutOfBoundsException.class, got);
    }

    static void argument(String call, LongSupplier got) {
        thrown(call, IllegalArgumentException.class, got);
    }

    static void state(String call, LongSupplier got) {
        thrown(call, IllegalStateException.class, got);
    }

    private static void thrown(String call, Class<?> want, LongSupplier got) {
        String answer;
        try {
            answer = String.valueOf(got.getAsLong());
        } catch (RuntimeException e) {
            answer = e.getClass().getName();
        }
        same(call, want.getName(), answer);
    }

    static void same(String call, String want, String got) {
        asked++;
        if (!want.equals(got)) {
            wrong++;
            System.out.println(call + " answered " + got + ", due is " + want);
        }
    }

    /** The end of a main method. */
    static void end() {
        System.out.println(asked + " answers, " + wrong + " of them not as due");
        if (wrong > 0 || asked == 0) {
            System.exit(1);
        }
    }
}
