import java.util.ArrayList;
import java.util.List;
import java.util.function.LongSupplier;

/**
 * Compares answers with what is due, and counts what is not as due. A sentence of the document is a test of its own:
 * it is told with its words, and they stand ahead of each answer that is not as due.
 */
final class Check {
    private static final List<String[]> SENTENCES = new ArrayList<>();
    private static boolean listing = false;
    private static String heading = "";
    private static String sentence = "";
    private static int asked = 0;
    private static int wrong = 0;

    private Check() {
    }

    /** The heading of the document under which the next sentences stand. */
    static void under(String nextHeading) {
        heading = nextHeading;
        if (!Doc.sections().containsKey(heading)) {
            same("the document's headings", heading, "none such");
        }
    }

    /** A sentence under that heading, word by word, and what holds it. */
    static void sentence(String words, Runnable test) {
        SENTENCES.add(new String[] {heading, words});
        if (listing) {
            return;
        }
        sentence = heading + " | " + words + " | ";
        int before = asked;
        int wrongBefore = wrong;
        try {
            test.run();
        } catch (RuntimeException e) {
            same("the test", "an end", e.toString());
        }
        if (asked == before) {
            same("the test", "an answer", "none");
        }
        sentence = "";
        System.out.println((wrong == wrongBefore ? "holds   " : "BROKEN  ") + heading + " | " + words);
    }

    /** From now on sentences are listed alone, not tested. */
    static void listOnly() {
        listing = true;
    }

    static List<String[]> sentences() {
        return SENTENCES;
    }

    static void due(String call, long want, LongSupplier got) {
        String answer;
        try {
            answer = String.valueOf(got.getAsLong());
        } catch (RuntimeException e) {
            answer = e.getClass().getName();
        }
        same(call, String.valueOf(want), answer);
    }

    static void dueTrue(String call, boolean holds) {
        same(call, "true", String.valueOf(holds));
    }

    static void same(String call, String want, String got) {
        asked++;
        if (!want.equals(got)) {
            wrong++;
            System.out.println(sentence + call + " answered " + got + ", due is " + want);
        }
    }

    /** The end of a main method. */
    static void end() {
        if (!listing) {
            report();
        }
    }

    static void report() {
        String of = SENTENCES.isEmpty() ? "" : SENTENCES.size() + " sentences, ";
        System.out.println(of + asked + " answers, " + wrong + " of them not as due");
        if (wrong > 0 || asked == 0) {
            System.exit(1);
        }
    }
}
