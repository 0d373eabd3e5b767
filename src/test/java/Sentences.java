import java.io.IOException;
import java.lang.reflect.Method;
import java.nio.file.Files;
import java.nio.file.Path;
import java.util.ArrayList;
import java.util.Arrays;
import java.util.Comparator;
import java.util.List;

/** Runs the tests of a class that say which words of DOC.md they hold the class under test to. */
final class Sentences {
    private Sentences() {
    }

    static void run(Class<?> tests) throws IOException, ReflectiveOperationException {
        List<String> document = document();
        for (Method test : testsOf(tests)) {
            for (String words : test.getAnnotation(Says.class).value()) {
                boolean stands = document.stream().anyMatch(line -> line.contains(words));
                Check.due("DOC.md has \"" + words + "\" of " + test.getName(), stands, true);
            }
            test.invoke(null);
        }
        Check.end(tests.getName());
    }

    static List<Method> testsOf(Class<?> tests) {
        List<Method> found = new ArrayList<>(Arrays.asList(tests.getDeclaredMethods()));
        found.removeIf(m -> m.getAnnotation(Says.class) == null);
        found.sort(Comparator.comparing(Method::getName));
        return found;
    }

    /** What the document says from its first line to its last promise, without headings and what FaceTest holds the class to. */
    static List<String> document() throws IOException {
        List<String> said = new ArrayList<>();
        boolean inFace = false;
        for (String line : untilNotPromised()) {
            inFace = line.startsWith("#") ? line.equals("## The public face") : inFace;
            boolean aside = inFace || line.startsWith("#") || line.startsWith("```") || line.startsWith("Ahead of the calls");
            if (!aside && !line.isBlank()) {
                said.add(line.replaceFirst("^`[^`]*`: ", "").replaceFirst("^==== \\d\\. ", "").replaceAll("\\s+", " ").trim());
            }
        }
        return said;
    }

    private static List<String> untilNotPromised() throws IOException {
        List<String> lines = Files.readAllLines(Path.of("../shared/DOC.md"));
        return lines.subList(0, lines.indexOf("## Not promised"));
    }
}
