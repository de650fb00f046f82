import java.io.IOException;
import java.lang.reflect.Method;
import java.lang.reflect.Modifier;
import java.nio.file.DirectoryStream;
import java.nio.file.Files;
import java.nio.file.Path;
import java.util.Arrays;
import java.util.Comparator;
import java.util.List;
import java.util.Set;
import java.util.TreeSet;
import java.util.regex.Matcher;
import java.util.regex.Pattern;
import java.util.stream.Collectors;
import java.util.stream.Stream;

/** What README.md says is so: its program, its commands, its tables. Run it from the project's root. */
public final class ReadmeTest {
    public static void main(String[] args) throws Exception {
        String words = Files.readString(Path.of("README.md"));
        commands(words);
        calls(words);
        exceptions(words);
        tests(words);
        Check.end();
    }

    /** The commands are run as they stand, in a place that looks like the project's. */
    private static void commands(String words) throws IOException, InterruptedException {
        Path place = Files.createTempDirectory("readme");
        try {
            Path project = Files.createDirectory(place.resolve("main"));
            Files.createSymbolicLink(project.resolve("src"), Path.of("src").toAbsolutePath());
            Files.createSymbolicLink(place.resolve("shared"), Path.of("../shared").toAbsolutePath());
            Files.writeString(project.resolve("Day.java"), block(words, "java", 0));
            Check.same("Day", "0 " + block(words, "text", 0), run(project, block(words, "sh", 0)));
            Check.same("all tests", ".ci/run\n", block(words, "sh", 1));
            Check.dueTrue(".ci/run can be run", Files.isExecutable(Path.of(".ci/run")));
            String alone = run(project, block(words, "sh", 2));
            boolean holds = alone.startsWith("0 ") && alone.contains(" 0 of them not as due");
            Check.dueTrue("one test alone: " + alone, holds);
        } finally {
            remove(place);
        }
    }

    private static String block(String words, String kind, int number) {
        Matcher found = Pattern.compile("(?s)```" + kind + "\n(.*?)```").matcher(words);
        String text = "no block of " + kind;
        for (int i = 0; i <= number && found.find(); i++) {
            text = i == number ? found.group(1) : text;
        }
        return text;
    }

    /** The exit code, then all that was said. */
    private static String run(Path place, String commands) throws IOException, InterruptedException {
        Process process = new ProcessBuilder("sh", "-e", "-c", commands).directory(place.toFile())
                .redirectErrorStream(true).start();
        String said = new String(process.getInputStream().readAllBytes());
        return process.waitFor() + " " + said;
    }

    private static void remove(Path place) throws IOException {
        try (Stream<Path> all = Files.walk(place)) {
            for (Path one : all.sorted(Comparator.reverseOrder()).collect(Collectors.toList())) {
                Files.delete(one);
            }
        }
    }

    private static Set<String> faceOf(Class<?> thrown) {
        Set<String> names = new TreeSet<>();
        for (Method method : Saltwedge.class.getDeclaredMethods()) {
            boolean throwsIt = thrown == null || Arrays.asList(method.getExceptionTypes()).contains(thrown);
            if (Modifier.isPublic(method.getModifiers()) && throwsIt) {
                names.add(method.getName());
            }
        }
        return names;
    }

    private static Set<String> named(String words, String pattern) {
        Set<String> names = new TreeSet<>();
        Matcher found = Pattern.compile(pattern).matcher(words);
        while (found.find()) {
            names.add(found.group(1));
        }
        return names;
    }

    private static void calls(String words) {
        Check.same("the calls", faceOf(null).toString(), named(words, "`(\\w+)\\(\\)`").toString());
    }

    private static void exceptions(String words) {
        Set<String> thrown = new TreeSet<>();
        for (Method method : Saltwedge.class.getMethods()) {
            if (method.getDeclaringClass() == Saltwedge.class) {
                for (Class<?> type : method.getExceptionTypes()) {
                    thrown.add(type.getSimpleName());
                }
            }
        }
        Check.same("the exceptions", thrown.toString(), named(words, "(?m)^\\| `(\\w+Exception)` \\|").toString());
        Check.same("the calls that are refused", faceOf(IllegalStateException.class).toString(),
                named(words, "(?m)^\\| `([a-z]\\w*)` \\|").toString());
    }

    private static void tests(String words) throws IOException {
        Set<String> there = new TreeSet<>();
        try (DirectoryStream<Path> files = Files.newDirectoryStream(Path.of("src/test/java"), "*Test.java")) {
            for (Path file : files) {
                there.add(file.getFileName().toString().replace(".java", ""));
            }
        }
        Set<String> told = named(words, "`(\\w+Test)`");
        List<String> first = List.of("Promise01Test", "Promise24Test");
        Check.dueTrue("the promises' tests", told.containsAll(first));
        for (int number = 1; number <= 24; number++) {
            told.add(String.format("Promise%02dTest", number));
        }
        Check.same("the tests", there.toString(), told.toString());
    }
}
