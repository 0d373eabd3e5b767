import java.io.IOException;
import java.lang.reflect.Constructor;
import java.lang.reflect.Field;
import java.lang.reflect.Method;
import java.lang.reflect.Modifier;
import java.nio.file.Files;
import java.nio.file.Path;
import java.util.ArrayList;
import java.util.Arrays;
import java.util.List;
import java.util.Set;
import java.util.TreeSet;
import java.util.regex.Matcher;
import java.util.regex.Pattern;

/** The public face as the document writes it, and those rules of the language that can be seen from outside. */
public final class FaceTest {
    private static final String FACE = "int status()|long top()|long bottom()|boolean tray(int,int,int)|boolean write(int,int,long)|long read(int,int)"
            + "|boolean pour(int,int,int,int,int)|int feed(int,int,int,int,int)|int shore(int)|int years(int)|int fault(int)|int many(int)"
            + "|int house(int,int)|int gang(int,int)|int wind(int,int)|int helped(int,int)|int takes(int,int)|int walk(int,int)|int next(int)"
            + "|int lift(int,int)|boolean rest(int)|int hour(int)|int gale(int)|int dawn()|int help(int,int,int)|int falls(int)|boolean risk(int)"
            + "|boolean loss()|boolean saves(int,int)|int dearest()|int worstWind()|int best(int,int)|int bestSet()|int soonest(int,int)|int order(int)"
            + "|int shared(int)|int allOff()|int score(int,int,int)|int words(int,int,int)|int owed()|int riders()|int chain(int)|int quits(int,int)"
            + "|int ground(int)|int signs(int,int)|int flown(int)|int likeliest(int)|int neighbour(int)|int live(int)|int lived(int)"
            + "|boolean mean(int,int)|int mark()|int back()";

    public static void main(String[] args) throws IOException {
        face();
        nestedClasses();
        source();
        Check.end("FaceTest");
    }

    private static void face() {
        Class<?> c = RoofGale.class;
        Check.due("public and final", c.getModifiers(), Modifier.PUBLIC | Modifier.FINAL);
        Set<String> due = new TreeSet<>(Arrays.asList(FACE.split("\\|")));
        Set<String> seen = new TreeSet<>();
        for (Method m : c.getDeclaredMethods()) {
            if (!Modifier.isPrivate(m.getModifiers())) {
                Check.due(m + " is public alone", m.getModifiers(), Modifier.PUBLIC);
                seen.add(signature(m));
            }
        }
        Check.due("methods " + seen, seen.equals(due), true);
        for (Field f : c.getDeclaredFields()) {
            boolean none = f.getName().equals("NONE");
            Check.due(f + " is private", Modifier.isPrivate(f.getModifiers()), !none);
            Check.due(f + " is final, if static", !Modifier.isStatic(f.getModifiers()) || Modifier.isFinal(f.getModifiers()), true);
        }
        Check.due("NONE", RoofGale.NONE, -1);
        Constructor<?>[] constructors = c.getDeclaredConstructors();
        Check.due("one constructor", constructors.length, 1);
        Check.due("without parameters", constructors[0].getParameterCount(), 0);
        Check.due("public", constructors[0].getModifiers(), Modifier.PUBLIC);
    }

    private static String signature(Method m) {
        List<String> types = new ArrayList<>();
        for (Class<?> type : m.getParameterTypes()) {
            types.add(type.getName());
        }
        return m.getReturnType().getName() + " " + m.getName() + "(" + String.join(",", types) + ")";
    }

    private static void nestedClasses() {
        Set<String> names = new TreeSet<>();
        for (Method m : RoofGale.class.getMethods()) {
            names.add(m.getName());
        }
        Class<?>[] nested = RoofGale.class.getDeclaredClasses();
        Check.due("at most twelve classes", nested.length < 12, true);
        List<Class<?>> all = new ArrayList<>(Arrays.asList(nested));
        all.add(RoofGale.class);
        for (Class<?> c : all) {
            Check.due(c + " is static", c == RoofGale.class || Modifier.isStatic(c.getModifiers()), true);
            long fields = Arrays.stream(c.getDeclaredFields()).filter(f -> !Modifier.isStatic(f.getModifiers())).count();
            Check.due(c + " has at most twenty fields", fields <= 20, true);
            for (Method m : c.getDeclaredMethods()) {
                Check.due(m + " has at most seven parameters", m.getParameterCount() <= 7, true);
                Check.due(m + " bears no public name", !Modifier.isPublic(m.getModifiers()) && names.contains(m.getName()), false);
            }
        }
    }

    private static void source() throws IOException {
        String text = Files.readString(Path.of("src/main/java/RoofGale.java"));
        String code = text.replaceAll("(?s)/\\*.*?\\*/|//[^\n]*", "");
        String[] forbidden = {"\\bthrow\\b", "\\btry\\b", "\\bcatch\\b", "\\bsynchronized\\b", "\\bassert\\b", "->", "::", "\\bimport\\b",
            "\\bpackage\\b", "Exact\\b", "\\bequals\\(", "\\bdouble\\b", "\\bvar\\b", "\"\\s*\\+", "\\+\\s*\""};
        for (String word : forbidden) {
            Matcher m = Pattern.compile(word).matcher(code);
            Check.due("no " + word, m.find(), false);
        }
        List<String> lines = text.lines().toList();
        for (int i = 0; i < lines.size(); i++) {
            Matcher head = Pattern.compile("( +)(public|private) .*\\) \\{").matcher(lines.get(i));
            if (head.matches()) {
                int length = lines.subList(i, lines.size()).indexOf(head.group(1) + "}");
                Check.due("the method in line " + (i + 1) + " is short: " + length, length <= 60, true);
            }
        }
    }
}
