import java.io.IOException;
import java.nio.file.Files;
import java.nio.file.Path;
import java.util.ArrayList;
import java.util.List;
import java.util.function.Supplier;
import java.util.regex.Matcher;
import java.util.regex.Pattern;

/** What stands under "Exceptions": which of them is thrown, and that such a call changes nothing. */
public final class ExceptionsTest {
    private static final String INDEX = "IndexOutOfBoundsException";
    private static final String ARGUMENT = "IllegalArgumentException";
    private static final String STATE = "IllegalStateException";

    /** Calls of an object in which there is nothing yet. */
    private static final String[] OF_NEW = {
        INDEX, "intake 0 1 0 1 0", "intake 0 0 31 0 501", "oysters 0 0 1", "oysters 0 31 0", "permit 0 0",
        "permit 0 -1", "whyNot 0 1", "whyNot 0 0", "dredge 0 1 -1", "dredge 0 0 0", "ofSection 0 0", "ofSection 0 10",
        "ofSectionAnew 0 0", "ofSectionAnew 0 10", "ofIntake 0 0", "ofIntake 0 5", "isClosed 0", "closure 0 0",
        "closure 0 3",
        ARGUMENT, "window 0 1", "window 201 1", "window 1 0", "window 1 25",
        STATE, "window 1 1", "window 200 24"};

    /** Calls of an object in which all is as much as can be: 5 hours went by, 8 SECTIONS, 6 INTAKES, 1 CLOSURE. */
    private static final String[] OF_FULL = {
        ARGUMENT, "turn 1 1 0 0", "turn 61 1 0 0", "turn 2 0 0 0", "turn 2 2 0 0", "turn 2 1 -1 0", "turn 2 1 51 0",
        "turn 2 1 0 -1", "turn 2 1 0 60",
        STATE, "turn 2 1 0 0", "turn 60 59 50 59",
        ARGUMENT, "mean -1", "mean 101",
        ARGUMENT, "surge 4 9 0", "surge 2001 2001 0", "surge 9 8 0", "surge 9 2001 0", "surge 9 9 -51", "surge 9 9 101",
        STATE, "surge 5 5 0", "surge 2000 2000 100",
        ARGUMENT, "river -1 0", "river 501 0", "river 0 -1", "river 0 501",
        ARGUMENT, "barrier -2 0", "barrier 501 0", "barrier 0 -1", "barrier 0 13", "barrier -1 13",
        ARGUMENT, "section 0 0 0 0", "section 101 0 0 0", "section 1 -1 0 0", "section 1 10001 0 0", "section 1 0 -1 0",
        "section 1 0 10001 0", "section 1 0 0 -1", "section 1 0 0 10001",
        STATE, "section 1 0 0 0", "section 100 10000 10000 10000",
        INDEX, "intake -1 1 0 1 0", "intake 8 1 0 1 0", "intake 8 0 0 1 0", "intake -1 0 31 0 501",
        ARGUMENT, "intake 0 0 0 1 0", "intake 0 501 0 1 0", "intake 0 1 -1 1 0", "intake 0 1 31 1 0",
        "intake 0 1 0 0 0", "intake 0 1 0 10001 0", "intake 0 1 0 1 -1", "intake 0 1 0 1 501",
        STATE, "intake 0 1 0 1 0", "intake 7 500 30 10000 500",
        INDEX, "oysters -1 0 1", "oysters 8 0 1", "oysters 8 31 25", "oysters -1 0 0",
        ARGUMENT, "oysters 0 -1 1", "oysters 0 31 1", "oysters 0 0 0", "oysters 0 0 25",
        STATE, "oysters 0 0 1", "oysters 7 30 24",
        INDEX, "permit -1 0", "permit 8 0", "permit 8 -1", "permit -1 10001",
        ARGUMENT, "permit 0 -1", "permit 0 10001",
        INDEX, "whyNot -1 1", "whyNot 8 1", "whyNot 8 0", "whyNot -1 10001",
        ARGUMENT, "whyNot 0 0", "whyNot 0 10001",
        INDEX, "dredge -1 1 0", "dredge 8 1 0", "dredge 0 1 8", "dredge 0 1 -2", "dredge 8 0 8", "dredge -1 1 -1",
        "dredge 0 0 8", "dredge 8 10001 0", "dredge 2 1 8", "dredge -2 1 -2",
        ARGUMENT, "dredge 0 0 1", "dredge 0 10001 -1", "dredge 0 1 0", "dredge 2 0 -1", "dredge 2 1 2",
        "dredge 2 10001 2",
        STATE, "dredge 2 1 -1", "dredge 0 41 1", "dredge 1 2001 0",
        ARGUMENT, "pass 0", "pass -1", "pass 49",
        ARGUMENT, "sea -1", "sea 2001",
        INDEX, "ofSection -1 0", "ofSection 8 0", "ofSection 8 10", "ofSection -1 -1",
        ARGUMENT, "ofSection 0 -1", "ofSection 7 10",
        INDEX, "ofSectionAnew -1 0", "ofSectionAnew 8 0", "ofSectionAnew 8 10", "ofSectionAnew -1 -1",
        ARGUMENT, "ofSectionAnew 0 -1", "ofSectionAnew 7 10",
        INDEX, "ofIntake -1 0", "ofIntake 6 0", "ofIntake 6 5", "ofIntake -1 -1",
        ARGUMENT, "ofIntake 0 -1", "ofIntake 5 5",
        INDEX, "isClosed -1", "isClosed 6",
        INDEX, "closure -1 0", "closure 1 0", "closure 1 3", "closure -1 -1",
        ARGUMENT, "closure 0 -1", "closure 0 3",
        ARGUMENT, "intrusion 0", "intrusion 31",
        ARGUMENT, "window 0 1", "window 201 1", "window 1 0", "window 1 25",
        ARGUMENT, "sum -1", "sum 10"};

    /** Calls of an object that stands at the last hour. */
    private static final String[] OF_LAST = {
        ARGUMENT, "pass 0", "pass 49", "surge 999 1000 0",
        STATE, "pass 1", "pass 48"};

    public static void main(String[] args) {
        Check.under("Exceptions");
        Check.sentence("IndexOutOfBoundsException: there is no such SECTION, INTAKE, OYSTERS or CLOSURE.",
                ExceptionsTest::noSuch);
        Check.sentence("IllegalArgumentException: another argument is out of its range.", ExceptionsTest::outOfRange);
        Check.sentence("IllegalStateException: as the method tells.", ExceptionsTest::asTheMethodTells);
        Check.sentence("If several apply, the one that is named first in the throws clause is thrown;",
                ExceptionsTest::namedFirst);
        Check.sentence("a call that throws changes nothing.", ExceptionsTest::changesNothing);
        Check.sentence("The constants: `NONE = -1`: There is none.", ExceptionsTest::none);
        Check.sentence("Ahead of the calls `turn`, `mean`, `surge`, `river`, `barrier` the interface says: ----"
                + " the sea, the river.", () -> ahead("the sea, the river", "turn, mean, surge, river, barrier"));
        Check.sentence("Ahead of the calls `section`, `intake`, `oysters` the interface says: ---- sections, intakes,"
                + " oysters.", () -> ahead("sections, intakes, oysters", "section, intake, oysters"));
        Check.sentence("Ahead of the calls `permit`, `whyNot`, `dredge`, `pass` the interface says: ---- dredging.",
                () -> ahead("dredging", "permit, whyNot, dredge, pass"));
        Check.sentence("Ahead of the calls `now`, `sea`, `ofSection`, `ofSectionAnew`, `ofIntake`, `isClosed`,"
                + " `closures`, `closure`, `intrusion`, `window`, `sum` the interface says: ---- questions.",
                () -> ahead("questions", "now, sea, ofSection, ofSectionAnew, ofIntake, isClosed, closures, closure,"
                        + " intrusion, window, sum"));
        Check.end();
    }

    /** As much as can be told, but for permits: 40 for the SECTION 0, 2000 for 1. There is one CLOSURE. */
    static Trial full() {
        Trial x = new Trial();
        for (int k = 0; k < 8; k++) {
            x.tell("section", 10 + k, 90 + k, 80, 400);
        }
        for (int i = 0; i < 6; i++) {
            x.tell("turn", 12 + i, 5, 20, i).tell("intake", i, 3, 20, 40, 2).tell("oysters", 7 - i, 5 * i, 4 * i + 1);
        }
        for (int i = 0; i < 20; i++) {
            x.tell("surge", 3, 4 + i, 3);
        }
        x.tell("barrier", 300, 0).tell("river", 30, 9).tell("pass", 1).tell("barrier", 60, 2).tell("pass", 1);
        x.tell("barrier", 400, 1).tell("pass", 3).tell("permit", 0, 40).tell("permit", 1, 2000);
        return x.due(5, "now").due(1, "closures");
    }

    private static Trial last() {
        return full().hours(995).due(1000, "now");
    }

    private static void rows(String only, Supplier<Trial> begin, String[] calls) {
        String thrown = "";
        for (String call : calls) {
            if (call.endsWith("Exception")) {
                thrown = call;
            } else if (only.equals(thrown)) {
                String answer = ask(begin.get(), call);
                Check.same(call, thrown, answer);
            }
        }
    }

    private static String ask(Trial x, String call) {
        String[] parts = call.split(" ");
        int[] arguments = new int[parts.length - 1];
        for (int i = 0; i < arguments.length; i++) {
            arguments[i] = Integer.parseInt(parts[i + 1]);
        }
        return x.ask(parts[0], arguments);
    }

    private static void noSuch() {
        rows(INDEX, Trial::new, OF_NEW);
        rows(INDEX, ExceptionsTest::full, OF_FULL);
        Trial.numbers(SectionsTest::mixed, 0, 2, "intake", 0, 1, 0, 1, 0);
        Trial.numbers(SectionsTest::mixed, 0, 2, "oysters", 0, 0, 1);
        String[] calls = {"permit", "whyNot", "ofSection", "ofSectionAnew"};
        for (String call : calls) {
            Trial.numbers(SectionsTest::mixed, 0, 2, call, 0, 1);
            Trial.numbers(ExceptionsTest::full, 0, 8, call, 0, 1);
        }
        Trial.numbers(ExceptionsTest::full, 0, 6, "ofIntake", 0, 0);
        Trial.numbers(ExceptionsTest::full, 0, 6, "isClosed", 0);
        Trial.numbers(ExceptionsTest::full, 0, 1, "closure", 0, 0);
        // of both SECTIONS; -1 is NONE in the second place alone
        Trial.numbers(() -> full().tell("permit", 7, 1), 0, 8, "dredge", 0, 1, 2);
        for (int to : new int[] {8, -2, Integer.MAX_VALUE, Integer.MIN_VALUE}) {
            full().index("dredge", 0, 1, to);
        }
        full().tell("dredge", 0, 1, 7).tell("dredge", 1, 1, 0).tell("dredge", 0, 1, -1).index("dredge", -1, 1, -1);
    }

    private static void outOfRange() {
        rows(ARGUMENT, Trial::new, OF_NEW);
        rows(ARGUMENT, ExceptionsTest::full, OF_FULL);
        rows(ARGUMENT, ExceptionsTest::last, OF_LAST);
    }

    private static void asTheMethodTells() {
        rows(STATE, Trial::new, OF_NEW);
        rows(STATE, ExceptionsTest::full, OF_FULL);
        rows(STATE, ExceptionsTest::last, OF_LAST);
    }

    /** Where two or three apply; each is thrown by itself in the tests above. */
    private static void namedFirst() {
        // IllegalArgumentException ahead of IllegalStateException
        full().argument("turn", 1, 1, 0, 0).argument("turn", 2, 1, 51, 0).argument("turn", 2, 1, 0, 60);
        full().argument("surge", 4, 5, 0).argument("surge", 5, 4, 0).argument("surge", 5, 5, 101);
        full().argument("section", 0, 0, 0, 0).argument("section", 1, 0, 0, 10001).argument("section", 1, -1, 0, 0);
        new Trial().tell("pass", 1).argument("section", 101, 0, 0, 0).argument("section", 1, 0, 10001, 0);
        last().argument("pass", 0).argument("pass", 49).argument("pass", Integer.MAX_VALUE);
        new Trial().argument("window", 0, 1).argument("window", 1, 25).argument("window", 201, 0);
        // IndexOutOfBoundsException ahead of IllegalArgumentException, and of both
        Trial few = SectionsTest.mixed().tell("intake", 0, 1, 0, 1, 0).tell("oysters", 0, 0, 1).tell("barrier", 0, 0);
        few.tell("pass", 1).index("intake", 2, 0, 0, 1, 0).index("intake", 2, 1, 31, 1, 0)
                .index("intake", 2, 1, 0, 0, 0);
        few.index("intake", 2, 1, 0, 1, 501).index("oysters", 2, 31, 1).index("oysters", 2, 0, 25);
        few.index("permit", 2, -1).index("whyNot", 2, 0).index("ofSection", 2, 10).index("ofSectionAnew", 2, 10);
        few.index("ofIntake", 1, 5).index("closure", 1, 3).index("dredge", 2, 0, 0).index("dredge", 0, 0, 2);
        few.index("dredge", 2, 1, 2).index("dredge", -1, 1, -1);
        full().index("intake", 8, 0, 0, 1, 0).index("oysters", 8, 31, 1).index("dredge", 2, 0, 8);
        // IndexOutOfBoundsException ahead of IllegalStateException
        full().index("intake", 8, 1, 0, 1, 0).index("oysters", 8, 0, 1).index("dredge", 2, 1, 8);
        // IllegalArgumentException ahead of IllegalStateException, where there are three
        full().argument("intake", 0, 0, 0, 1, 0).argument("intake", 0, 1, 31, 1, 0).argument("intake", 0, 1, 0, 0, 0);
        full().argument("intake", 0, 1, 0, 1, 501).argument("oysters", 0, 31, 1).argument("oysters", 0, 0, 0);
        full().argument("dredge", 2, 0, 1).argument("dredge", 2, 10001, -1).argument("dredge", 2, 1, 2);
    }

    private static void changesNothing() {
        leavesAll(Trial::new, OF_NEW);
        leavesAll(SectionsTest::mixed, "window 0 1", "dredge 0 1 1", "dredge 0 1 -1", "intake 2 1 0 1 0",
                "intake 1 0 0 1 0", "oysters 2 0 1", "oysters 0 0 0", "section 1 0 0 0",
                "turn 2 2 0 0", "mean 101", "surge 0 9 9", "river 9 501", "barrier 9 13", "permit 0 10001", "pass 49");
        leavesAll(ExceptionsTest::full, OF_FULL);
        leavesAll(ExceptionsTest::last, OF_LAST);
    }

    /** Whatever is asked and told behind a call that throws is answered as without it. */
    private static void leavesAll(Supplier<Trial> begin, String... calls) {
        List<String> want = allAnswers(begin.get());
        for (String call : calls) {
            if (call.endsWith("Exception")) {
                continue;
            }
            Trial x = begin.get();
            String answer = ask(x, call);
            Check.dueTrue(call + " throws, and answers not " + answer, answer.endsWith("Exception"));
            List<String> got = allAnswers(x);
            for (int i = 0; i < want.size(); i++) {
                if (!want.get(i).equals(got.get(i))) {
                    Check.same("behind " + call, want.get(i), got.get(i));
                    break;
                }
            }
        }
    }

    private static List<String> allAnswers(Trial x) {
        List<String> all = new ArrayList<>();
        answersNow(x, all);
        for (int hour = 0; hour <= 12; hour++) {
            ask(x, all, "sea", hour);
        }
        for (int hour : new int[] {48, 999, 1000, 2000}) {
            ask(x, all, "sea", hour);
        }
        for (int k = 0; k < 8; k++) {
            ask(x, all, "whyNot", k, 1);
            ask(x, all, "whyNot", k, 40);
            ask(x, all, "ofSectionAnew", k, 3);
            ask(x, all, "ofSectionAnew", k, 5);
        }
        for (int number = 0; number < 2; number++) {
            for (int what = 0; what < 3; what++) {
                ask(x, all, "closure", number, what);
            }
        }
        int now = Integer.parseInt(x.ask("now"));
        ask(x, all, "turn", 2, 1, 1, 0);
        ask(x, all, "mean", 44);
        ask(x, all, "surge", now, now, 1);
        ask(x, all, "river", 1, 1);
        ask(x, all, "barrier", -1, 0);
        ask(x, all, "section", 1, 9, 9, 9);
        ask(x, all, "intake", 0, 1, 30, 1, 0);
        ask(x, all, "oysters", 0, 1, 1);
        ask(x, all, "dredge", 0, 1, -1);
        for (int k = 0; k < 8; k++) {
            ask(x, all, "permit", k, 9);
        }
        ask(x, all, "pass", 2);
        answersNow(x, all);
        return all;
    }

    private static void answersNow(Trial x, List<String> all) {
        ask(x, all, "now");
        ask(x, all, "closures");
        for (int k = 0; k < 8; k++) {
            for (int what = 0; what < 10; what++) {
                ask(x, all, "ofSection", k, what);
            }
        }
        for (int i = 0; i < 6; i++) {
            ask(x, all, "isClosed", i);
            for (int what = 0; what < 5; what++) {
                ask(x, all, "ofIntake", i, what);
            }
        }
        for (int what = 0; what < 10; what++) {
            ask(x, all, "sum", what);
        }
        ask(x, all, "intrusion", 1);
        ask(x, all, "window", 40, 3);
    }

    private static void ask(Trial x, List<String> all, String call, int... arguments) {
        all.add(Trial.name(call, arguments) + " " + x.ask(call, arguments));
    }

    private static void none() {
        Check.due("NONE", -1, () -> Saltwedge.NONE);
        new Trial().due(Saltwedge.NONE, "barrier", 9, 0).due(9, "barrier", Saltwedge.NONE, 0);
        new Trial().tell("section", 1, 0, 0, 60).due(Saltwedge.NONE, "window", 1, 1);
    }

    /** In the program's text these calls, and no others, stand between such a comment and the next one. */
    private static void ahead(String title, String want) {
        Pattern part = Pattern.compile("// ---- ([^\n]*)\n|\n    public \\w+ (\\w+)\\(|\n    private ");
        Matcher found = part.matcher(program());
        String current = "";
        List<String> calls = new ArrayList<>();
        while (found.find()) {
            if (found.group(1) != null) {
                current = found.group(1).trim();
            } else if (found.group(2) != null && current.equals(title)) {
                calls.add(found.group(2));
            }
        }
        Check.same("calls behind ---- " + title, want, String.join(", ", calls));
    }

    private static String program() {
        try {
            return Files.readString(Path.of("src/main/java/Saltwedge.java"));
        } catch (IOException e) {
            throw new IllegalStateException("the program cannot be read", e);
        }
    }
}
