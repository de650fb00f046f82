import java.io.IOException;
import java.nio.file.DirectoryStream;
import java.nio.file.Files;
import java.nio.file.Path;
import java.util.ArrayList;
import java.util.List;
import java.util.Map;
import java.util.TreeMap;

/** Each sentence of the document's face, Terms and promises is a test of its own, and each such test has its words. */
public final class EverySentenceTest {
    private static final List<String> TERMS = List.of("The public face", "The sea", "Sections", "The barrier",
            "An hour", "Oysters, dredging", "Exceptions");

    public static void main(String[] args) throws Exception {
        Check.listOnly();
        for (String name : testsOfSentences()) {
            Class.forName(name).getMethod("main", String[].class).invoke(null, (Object) new String[0]);
        }
        Map<String, String> left = new TreeMap<>(Doc.sections());
        for (String[] sentence : Check.sentences()) {
            String text = left.getOrDefault(sentence[0], "");
            int at = text.indexOf(sentence[1]);
            Check.dueTrue(sentence[0] + " says: " + sentence[1], at >= 0);
            if (at >= 0) {
                // A mark stands where the words were, so that what is left does not grow together.
                left.put(sentence[0], text.substring(0, at) + " # " + text.substring(at + sentence[1].length()));
            }
        }
        for (Map.Entry<String, String> section : left.entrySet()) {
            if (TERMS.contains(section.getKey()) || section.getKey().startsWith("Promise ")) {
                // The face at the head of a promise is held by FaceTest; signs alone say nothing.
                String rest = section.getValue().replaceFirst("^ `[^`]*`: ", "").replaceAll("```(java)?|[ #}]", "");
                Check.same(section.getKey() + ": what no test holds", "", rest);
            }
        }
        Check.report();
    }

    private static List<String> testsOfSentences() throws IOException {
        List<String> names = new ArrayList<>();
        try (DirectoryStream<Path> files = Files.newDirectoryStream(Path.of("src/test/java"), "*Test.java")) {
            for (Path file : files) {
                String name = file.getFileName().toString().replace(".java", "");
                boolean isThis = name.equals(EverySentenceTest.class.getName());
                if (!isThis && Files.readString(file).contains("Check.sentence(")) {
                    names.add(name);
                }
            }
        }
        names.sort(null);
        return names;
    }
}
