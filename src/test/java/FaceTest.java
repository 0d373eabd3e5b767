import java.io.IOException;
import java.lang.reflect.Constructor;
import java.lang.reflect.Executable;
import java.lang.reflect.Field;
import java.lang.reflect.Method;
import java.lang.reflect.Modifier;
import java.nio.file.Files;
import java.nio.file.Path;
import java.util.ArrayList;
import java.util.List;
import java.util.regex.Matcher;
import java.util.regex.Pattern;

/** The public face: each row of it, and what the interface says ahead of calls, as the document writes it, and no other member. */
public final class FaceTest {
    private static final String HEAD = "public final class RoofGale {";

    public static void main(String[] args) throws IOException {
        List<String> document = Files.readAllLines(Path.of("../shared/DOC.md"));
        List<String> source = Files.readAllLines(Path.of("src/main/java/RoofGale.java"));
        List<String> face = faceOf(document);
        Check.due("rows of the face", face.size(), 55);
        Check.due("the class is public and final", source.contains(HEAD), true);
        Check.due("public members as they stand: " + publicRows(source), publicRows(source).equals(face), true);
        noOtherMember(face);
        promises(document, face);
        aheadOfCalls(document, source);
        Check.due("NONE", RoofGale.NONE, -1);
        Check.end("FaceTest");
    }

    private static List<String> faceOf(List<String> document) {
        int from = document.indexOf(HEAD) + 1;
        return document.subList(from, from + document.subList(from, document.size()).indexOf("}")).stream().map(String::trim).toList();
    }

    /** The public rows of the class itself, without their bodies. */
    private static List<String> publicRows(List<String> source) {
        return source.stream().filter(line -> line.startsWith("    public ")).map(line -> line.trim().replace(" {", ";")).toList();
    }

    private static void noOtherMember(List<String> face) {
        Class<?> c = RoofGale.class;
        Check.due("public and final", c.getModifiers(), Modifier.PUBLIC | Modifier.FINAL);
        Check.due("no superclass but Object", c.getSuperclass() == Object.class, true);
        Check.due("interfaces", c.getInterfaces().length, 0);
        int members = 0;
        for (Field f : c.getDeclaredFields()) {
            boolean none = f.getName().equals("NONE");
            Check.due("modifiers of " + f, f.getModifiers() & (Modifier.PUBLIC | Modifier.PRIVATE | Modifier.PROTECTED), none ? Modifier.PUBLIC : Modifier.PRIVATE);
            members += none ? 1 : 0;
        }
        List<Executable> calls = new ArrayList<>(List.of(c.getDeclaredMethods()));
        for (Constructor<?> constructor : c.getDeclaredConstructors()) {
            calls.add(constructor);
        }
        for (Executable call : calls) {
            if (!Modifier.isPrivate(call.getModifiers())) {
                Check.due(call + " is public alone", call.getModifiers(), Modifier.PUBLIC);
                members++;
            }
        }
        Check.due("members that are not private", members, face.size());
        noNameTwice();
    }

    private static void noNameTwice() {
        List<Class<?>> classes = new ArrayList<>(List.of(RoofGale.class.getDeclaredClasses()));
        classes.add(RoofGale.class);
        for (Class<?> c : classes) {
            for (Method m : c.getDeclaredMethods()) {
                boolean named = Both.methods().stream().anyMatch(open -> open.getName().equals(m.getName()));
                Check.due(m + " bears a public name", named, Modifier.isPublic(m.getModifiers()));
            }
        }
    }

    /** A promise repeats its row of the face: both must be what the class has. */
    private static void promises(List<String> document, List<String> face) {
        int found = 0;
        for (String line : document) {
            Matcher m = Pattern.compile("`((int|long|boolean) \\w+\\(.*?\\)|RoofGale\\(\\))`: .*").matcher(line);
            if (m.matches()) {
                found++;
                Check.due("the face has " + m.group(1), face.contains("public " + m.group(1) + ";"), true);
            }
        }
        Check.due("promises", found, 54);
    }

    private static void aheadOfCalls(List<String> document, List<String> source) {
        int found = 0;
        for (String line : document) {
            Matcher m = Pattern.compile("Ahead of the calls (.*) the interface says: (---- .*)\\.").matcher(line);
            if (m.matches()) {
                found++;
                List<String> due = List.of(m.group(1).replace("`", "").split(", "));
                List<String> behind = callsBehind(source, "    // " + m.group(2));
                Check.due("calls behind " + m.group(2) + ": " + behind, behind.equals(due), true);
            }
        }
        Check.due("such rows", found, 9);
    }

    /** The public calls between such a comment and the next one. */
    private static List<String> callsBehind(List<String> source, String comment) {
        List<String> calls = new ArrayList<>();
        boolean behind = false;
        for (String line : source) {
            behind = line.startsWith("    // ----") ? line.equals(comment) : behind;
            Matcher m = Pattern.compile("    public \\w+ (\\w+)\\(.*").matcher(line);
            if (behind && m.matches()) {
                calls.add(m.group(1));
            }
        }
        return calls;
    }
}
