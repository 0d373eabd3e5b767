import java.io.File;
import java.io.IOException;
import java.lang.reflect.Method;
import java.util.ArrayList;
import java.util.Arrays;
import java.util.List;

/** Every sentence of the document, from its first line to its last promise, stands above a test that holds the class to it. */
public final class DocTest {
    public static void main(String[] args) throws IOException, ReflectiveOperationException {
        List<String> quoted = quoted();
        for (String line : Sentences.document()) {
            String left = unquoted(line, quoted);
            if (!left.isBlank()) {
                System.out.println("no test says: " + left);
            }
            Check.due("the line \"" + line + "\" is said by tests", left.isBlank(), true);
        }
        Check.end("DocTest");
    }

    private static List<String> quoted() throws ReflectiveOperationException {
        List<String> all = new ArrayList<>();
        for (String file : new File("src/test/java").list()) {
            if (file.endsWith("Test.java")) {
                Class<?> tests = Class.forName(file.substring(0, file.length() - ".java".length()));
                for (Method test : Sentences.testsOf(tests)) {
                    all.addAll(Arrays.asList(test.getAnnotation(Says.class).value()));
                }
            }
        }
        return all;
    }

    /** What no test says of a line, with a stroke for what tests say. */
    private static String unquoted(String line, List<String> quoted) {
        boolean[] said = new boolean[line.length()];
        for (String words : quoted) {
            for (int at = line.indexOf(words); at >= 0; at = line.indexOf(words, at + 1)) {
                Arrays.fill(said, at, at + words.length(), true);
            }
        }
        StringBuilder left = new StringBuilder();
        for (int i = 0; i < said.length; i++) {
            boolean counts = Character.isLetterOrDigit(line.charAt(i)) && !said[i];
            left.append(counts ? line.charAt(i) : ' ');
        }
        return left.toString().replaceAll(" +", " ").trim();
    }
}
