import java.io.File;
import java.io.IOException;
import java.nio.file.Files;
import java.nio.file.Path;
import java.util.ArrayList;
import java.util.List;
import java.util.Set;
import java.util.TreeSet;
import java.util.regex.Matcher;
import java.util.regex.Pattern;

/** README.md is true: its example, which stands here as it stands there, its tables, and what it says of tape, status and fraction. */
public final class ReadmeTest {
    public static void main(String[] args) throws IOException {
        List<String> page = Files.readAllLines(Path.of("README.md"));
        blocksStandHere(page);
        example();
        tape();
        status();
        fraction();
        tables(page);
        Check.end("ReadmeTest");
    }

    private static void blocksStandHere(List<String> page) throws IOException {
        Set<String> here = new TreeSet<>();
        for (String line : Files.readAllLines(Path.of("src/test/java/ReadmeTest.java"))) {
            here.add(withoutComment(line.replace("private static", "static")));
        }
        boolean java = false;
        for (String line : page) {
            java = line.startsWith("```") ? line.equals("```java") : java;
            if (java && !line.startsWith("```")) {
                Check.due("ReadmeTest has the row of README.md: " + line, here.contains(withoutComment(line)), true);
            }
        }
    }

    private static String withoutComment(String line) {
        return line.replaceFirst(" +// .*", "").trim();
    }

    private static void feed(RoofGale x, String text) {
        for (int i = 0; i < text.length(); i += 20) {
            int[] five = new int[5];
            for (int k = 0; k < 20; k++) {
                int b = i + k < text.length() ? text.charAt(i + k) & 255 : ' ';
                five[k / 4] = five[k / 4] << 8 | b;
            }
            x.feed(five[0], five[1], five[2], five[3], five[4]);
        }
    }

    private static void example() {
        RoofGale x = new RoofGale();
        String text = "house ann at 0 worth 100 pieces 2 weight 5; house bob at 4 worth 300 pieces 1 weight 9;"
                + "gang red of ann hands 8; wind gust 18 of 4; wind storm 60 of 1;";
        feed(x, text);
        int houses = x.shore(text.length());
        Check.tells(x, "houses", houses, 2);
        boolean told = x.risk(1);
        Check.fraction(x, "risk", told, 1, 5);
        int best = x.best(0, 10);
        Check.tells(x, "best", best, 300);
        int off = x.hour(60);
        Check.tells(x, "off", off, 2);
        int none = x.hour(241);
        Check.fails(x, "an hour too long", none, 5);
        Check.tells(x, "nothing else has changed", x.many(4), 60);
    }

    private static void tape() {
        RoofGale x = new RoofGale();
        for (int bytes = 20; bytes <= 900; bytes += 20) {
            Check.due("feed", x.feed(0x20202020, 0x20202020, 0x20202020, 0x20202020, 0x20202020), bytes);
        }
        Check.due("feed above 900", x.feed(0, 0, 0, 0, 0), RoofGale.NONE);
        Check.fails(x, "years above 300", x.years(301), 5);
        Check.tells(x, "status 5 leaves the tape, and feed above 900 did", x.shore(900), 0);
        Check.due("the tape is empty then", x.feed(0x676f2020, 0, 0, 0, 0), 20);
        Check.fails(x, "a fault", x.shore(2), 10);
        Check.due("its kind", x.fault(0), 2);
        Check.due("its place", x.fault(1), 0);
        Check.due("the tape is empty then, too", x.feed(0x2020676f, 0, 0, 0, 0), 20);
        Check.tells(x, "the first bytes, and no more", x.shore(2), 0);
    }

    /** Of each status in the table one call. */
    private static void status() {
        RoofGale x = Check.at();
        Check.no(x, "no such tray", x.tray(4, 0, 0), 1);
        Check.no(x, "no such sort", x.tray(0, 4, 0), 1);
        Check.fails(x, "no such house", x.house(4, 0), 2);
        Check.fails(x, "a missing tray", x.read(0, 0), 3);
        Check.yes(x, "a tray", x.tray(0, 0, 1));
        Check.fails(x, "no such place", x.read(0, 1), 4);
        Check.fails(x, "a number that can't be", x.gale(100), 5);
        Check.no(x, "a length below 0", x.tray(0, 0, -1), 6);
        for (int times = 0; times < 100; times++) {
            x.help(0, 1, 99);
        }
        Check.fails(x, "a number that would grow too great", x.help(0, 1, 99), 7);
        Check.fails(x, "there is none", x.back(), 8);
        x.lift(0, 0);
        Check.fails(x, "it can't be as things stand", x.lift(1, 0), 9);
        Check.fails(x, "a fault", Check.shore(x, "go"), 10);
        Check.yes(x, "another tray", x.tray(1, 1, 1));
        Check.no(x, "unlike sorts", x.pour(0, 0, 1, 0, 1), 11);
        x.write(0, 0, -1);
        Check.tells(x, "an answer of -1", x.read(0, 0), -1);
        Check.fails(x, "none", x.read(0, 1), 4);
        x.top();
        x.bottom();
        x.fault(9);
        x.feed(0, 0, 0, 0, 0);
        Check.due("these leave the status", x.status(), 4);
    }

    private static void fraction() {
        RoofGale x = Check.at();
        Check.due("top of a new object", x.top(), 0);
        Check.due("bottom of a new object", x.bottom(), 1);
        Check.fraction(x, "risk", x.risk(1), 3, 5);
        Check.no(x, "no such house", x.risk(9), 2);
        x.hour(1);
        Check.due("top stays", x.top(), 3);
        Check.due("bottom stays", x.bottom(), 5);
        Check.fraction(x, "saves", x.saves(240, 99), -36, 1);
    }

    private static void tables(List<String> page) {
        Set<String> classes = new TreeSet<>(List.of("RoofGale"));
        for (Class<?> c : RoofGale.class.getDeclaredClasses()) {
            classes.add(c.getSimpleName());
        }
        Check.due("the classes in the file: " + classes, tableOf(page, "class").equals(classes), true);
        Set<String> tests = new TreeSet<>();
        Set<String> beside = new TreeSet<>();
        for (String file : new File("src/test/java").list()) {
            String name = file.replace(".java", "");
            (name.endsWith("Test") ? tests : beside).add(name);
        }
        Check.due("the tests: " + tests, tableOf(page, "test").equals(tests), true);
        Check.due("beside them: " + beside, tableOf(page, "beside them").equals(beside), true);
    }

    /** The names that lead the rows of a table. */
    private static Set<String> tableOf(List<String> page, String head) {
        List<String> names = new ArrayList<>();
        boolean inside = false;
        for (String line : page) {
            inside = line.startsWith("|") && (inside || line.startsWith("| " + head + " |"));
            Matcher m = Pattern.compile("\\| `(\\w+)` \\|.*").matcher(line);
            if (inside && m.matches()) {
                names.add(m.group(1));
            }
        }
        return new TreeSet<>(names);
    }
}
