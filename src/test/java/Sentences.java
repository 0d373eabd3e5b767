import java.io.IOException;
import java.lang.reflect.Method;
import java.nio.file.Files;
import java.nio.file.Path;
import java.util.ArrayList;
import java.util.Arrays;
import java.util.Comparator;
import java.util.List;

/** Runs the tests of a class that say which words of DOC.md they hold the class under test to. */
final class Sentences {
    private Sentences() {
    }

    static void run(Class<?> tests) throws IOException, ReflectiveOperationException {
        List<String> document = document();
        for (Method test : testsOf(tests)) {
            for (String words : test.getAnnotation(Says.class).value()) {
                boolean stands = document.stream().anyMatch(line -> line.contains(words));
                Check.due("DOC.md has \"" + words + "\" of " + test.getName(), stands, true);
            }
            test.invoke(null);
        }
        Check.end(tests.getName());
    }

    static List<Method> testsOf(Class<?> tests) {
        List<Method> found = new ArrayList<>(Arrays.asList(tests.getDeclaredMethods()));
        found.removeIf(m -> m.getAnnotation(Says.class) == null);
        found.sort(Comparator.comparing(Method::getName));
        return found;
    }

    /** What the document promises, from its terms on, line by line, without headings and signatures. */
    static List<String> document() throws IOException {
        List<String> lines = Files.readAllLines(Path.of("../shared/DOC.md"));
        List<String> promised = new ArrayList<>();
        for (String line : lines.subList(lines.indexOf("## Terms"), lines.indexOf("## Not promised"))) {
            boolean aside = line.startsWith("#") || line.startsWith("```") || line.startsWith("Ahead of the calls");
            if (!aside && !line.isBlank()) {
                promised.add(line.replaceFirst("^`[^`]*`: ", "").replaceFirst("^==== \\d\\. ", "").replaceAll("\\s+", " ").trim());
            }
        }
        return promised;
    }
}
