import java.nio.file.Files;
import java.nio.file.Path;
import java.util.List;
import java.util.regex.Matcher;
import java.util.regex.Pattern;

/** What of ../shared/LANGUAGE.md can be seen from the words alone. Run it from the project's root. */
public final class LanguageTest {
    private static final List<String> FORBIDDEN = List.of(
            "import", "package", "protected", "synchronized", "assert", "finally", "volatile", "transient", "native",
            "catch", "try", "Exact", "->", "::", "record", "Object", "System", "Thread", "random", "null");

    public static void main(String[] args) throws Exception {
        String text = Files.readString(Path.of("src/main/java/Saltwedge.java"));
        for (int i = 0; i < text.length(); i++) {
            if (text.charAt(i) > 126) {
                Check.same("sign " + i, "a sign of 1 to 126", String.valueOf(text.charAt(i)));
            }
        }
        String code = withoutComments(text);
        for (String word : FORBIDDEN) {
            String edge = Character.isLetter(word.charAt(0)) && !word.equals("Exact") ? "\\b" : "";
            Matcher found = Pattern.compile(edge + Pattern.quote(word) + edge).matcher(code);
            Check.dueTrue("the program does without " + word, !found.find());
        }
        Matcher thrown = Pattern.compile("throw new (\\w+)\\(").matcher(code);
        int count = 0;
        while (thrown.find()) {
            count++;
            Check.dueTrue(thrown.group(1) + " is an exception of the document", List.of("IllegalStateException",
                    "IllegalArgumentException", "IndexOutOfBoundsException").contains(thrown.group(1)));
        }
        final int all = count;
        Check.due("every throw is a throw new", occurrences(code, "\\bthrow\\b"), () -> all);
        Check.dueTrue("at most twelve classes", occurrences(code, "\\bclass\\b") <= 12);
        Check.end();
    }

    private static String withoutComments(String text) {
        return text.replaceAll("(?s)/\\*.*?\\*/", " ").replaceAll("//[^\n]*", " ").replaceAll("\"[^\"\n]*\"", "\"\"");
    }

    private static long occurrences(String code, String pattern) {
        return Pattern.compile(pattern).matcher(code).results().count();
    }
}
