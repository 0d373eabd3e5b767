import java.lang.reflect.Method;
import java.util.ArrayList;
import java.util.Arrays;
import java.util.List;
import java.util.Map;
import java.util.Random;

/** Random runs of at most 512 calls, asked of the class and of the plain model alike; every run has its own seed. */
public final class RandomTest {
    private static final int RUNS = 1200;
    private static final String[] WORDS = ("house at worth pieces weight long pegs gang hands pace helped by wind of law owed near told "
            + "hour gale dawn rest lift with when off stands loop end stop ; < > = 0 1 61 100 241 1000 12345 a b p q x abcdefghi ! A").split(" ");

    private final Random random;
    private final Both both = new Both();
    private final PlainModel plain = both.plain();
    /** Few runs have all houses, gangs and winds that there may be: the model tries every order of them. */
    private final boolean full;

    private RandomTest(long seed) {
        random = new Random(seed);
        full = seed % 40 == 39;
    }

    public static void main(String[] args) throws ReflectiveOperationException {
        int runs = args.length > 0 ? Integer.parseInt(args[0]) : RUNS;
        int from = args.length > 1 ? Integer.parseInt(args[1]) : 0;
        for (int seed = from; seed < from + runs; seed++) {
            new RandomTest(seed).run();
        }
        Check.end("RandomTest");
    }

    private static List<Method> methods() {
        List<Method> all = Both.methods();
        all.removeIf(m -> List.of("feed", "shore", "years", "shared", "allOff").contains(m.getName()));
        return all;
    }

    private static final List<Method> METHODS = methods();

    private void run() throws ReflectiveOperationException {
        text("shore", shoreText());
        plans();
        while (both.asked() < (full ? 200 : 380)) {
            int dice = random.nextInt(100);
            if (dice < 3) {
                text("shore", random.nextInt(3) == 0 ? broken(shoreText()) : shoreText());
                plans();
            } else if (dice < 8) {
                text("years", random.nextInt(3) == 0 ? broken(yearsText()) : yearsText());
            } else if (dice < 10) {
                both.call("shared", random.nextInt(120));
            } else if (dice < 12) {
                both.call("allOff");
            } else if (dice < 20) {
                both.call("hour", 1 + random.nextInt(30));
            } else {
                Method m = METHODS.get(random.nextInt(METHODS.size()));
                both.call(m, arguments(m));
            }
        }
        both.end();
    }

    /** The calls that are dearest to the model, while all houses stand. */
    private void plans() throws ReflectiveOperationException {
        for (int g = 0; g < plain.gangCount(); g++) {
            both.call("best", g, number('m'));
            both.call("bestSet");
            both.call("soonest", g, random.nextBoolean() ? number('z') : (1 << plain.houseCount()) - 1);
            for (int k = 0; k <= plain.houseCount(); k++) {
                both.call("order", k);
            }
        }
        both.call("shared", number('m'));
        both.call("allOff");
        both.call("hour", number('m'));
        both.call("ground", number('f'));
    }

    /** What the arguments of a call are: g a gang, h a house, w a wind, t a tray, and so on as number() tells. */
    private static final Map<String, String> KINDS = Map.ofEntries(Map.entry("tray", "tol"), Map.entry("write", "tpv"), Map.entry("read", "tp"),
            Map.entry("pour", "tptpp"), Map.entry("fault", "o"), Map.entry("many", "a"), Map.entry("house", "ha"), Map.entry("gang", "gp"),
            Map.entry("wind", "wo"), Map.entry("helped", "hh"), Map.entry("takes", "gh"), Map.entry("walk", "gh"), Map.entry("next", "g"),
            Map.entry("lift", "gh"), Map.entry("rest", "g"), Map.entry("hour", "m"), Map.entry("gale", "s"), Map.entry("help", "hhc"),
            Map.entry("falls", "f"), Map.entry("risk", "h"), Map.entry("saves", "mc"), Map.entry("best", "gm"), Map.entry("soonest", "gz"),
            Map.entry("order", "p"), Map.entry("score", "ttp"), Map.entry("words", "ttp"), Map.entry("chain", "h"), Map.entry("quits", "hh"),
            Map.entry("ground", "f"), Map.entry("signs", "tp"), Map.entry("flown", "t"), Map.entry("likeliest", "t"), Map.entry("neighbour", "h"),
            Map.entry("live", "d"), Map.entry("lived", "p"), Map.entry("mean", "dy"));

    private Object[] arguments(Method m) {
        Object[] arguments = new Object[m.getParameterCount()];
        for (int i = 0; i < arguments.length; i++) {
            int n = number(KINDS.get(m.getName()).charAt(i));
            arguments[i] = m.getParameterTypes()[i] == long.class ? (Object) (long) n : (Object) n;
        }
        return arguments;
    }

    private int number(char kind) {
        int[] odd = {Integer.MIN_VALUE, Integer.MAX_VALUE, -1, 60, 61, 100, 99, 0, 241, 10000, 9999};
        if (random.nextInt(30) == 0) {
            return odd[random.nextInt(odd.length)];
        }
        return switch (kind) {
            case 'g' -> random.nextInt(plain.gangCount() + (random.nextInt(9) == 0 ? 2 : 1));
            case 'h' -> random.nextInt(plain.houseCount() + (random.nextInt(9) == 0 ? 2 : 1));
            case 'w' -> random.nextInt(6);
            case 't' -> random.nextInt(random.nextInt(9) == 0 ? 5 : 3);
            case 'o' -> random.nextInt(3);
            case 'l' -> random.nextInt(12);
            case 'p' -> random.nextInt(7);
            case 'v' -> random.nextInt(3) == 0 ? random.nextInt(100000) - 50000 : random.nextInt(random.nextBoolean() ? 2 : 9);
            case 'a' -> random.nextInt(10);
            case 'm' -> random.nextInt(random.nextBoolean() ? 30 : 242);
            case 's' -> random.nextInt(4) == 0 ? random.nextInt(60) : 9 + random.nextInt(7);
            case 'f' -> random.nextInt(70);
            case 'c' -> random.nextInt(100);
            case 'z' -> random.nextInt(1 << plain.houseCount());
            case 'd' -> random.nextInt(10000);
            default -> 1 + random.nextInt(21);
        };
    }

    private void text(String name, String text) throws ReflectiveOperationException {
        int bytes = both.feed(text);
        both.call(name, random.nextInt(30) == 0 ? random.nextInt(1000) - 50 : bytes);
    }

    private int upTo(int least, int most) {
        int dice = random.nextInt(10);
        return dice == 0 ? least : dice == 1 ? most : least + random.nextInt(most - least + 1);
    }

    private String shoreText() {
        StringBuilder t = new StringBuilder();
        int houses = random.nextInt(12) == 0 ? random.nextInt(9) : 2 + random.nextInt(4);
        int gangs = houses == 0 ? 0 : houses > 6 ? random.nextInt(2) : random.nextInt(4);
        int winds = random.nextInt(6);
        if (full) {
            houses = 8;
            gangs = 4;
            winds = 6;
        }
        int width = random.nextBoolean() ? 60 : 9;
        boolean light = random.nextBoolean();
        boolean lawFirst = random.nextBoolean();
        String law = random.nextInt(5) == 0 ? "" : "law " + new String[] {"worth", "owed", "near", "told"}[random.nextInt(4)] + ";";
        t.append(lawFirst ? law : "");
        for (int h = 0; h < houses; h++) {
            t.append("house ").append((char) ('a' + h)).append(" at ").append(upTo(0, width)).append(" worth ").append(upTo(0, random.nextBoolean() ? 999 : 4))
                    .append(" pieces ").append(upTo(1, light ? 3 : 9)).append(" weight ").append(upTo(1, light ? 4 : 20));
            t.append(!full && random.nextBoolean() ? " long " + upTo(1, 20) : "").append(random.nextInt(3) == 0 ? " pegs " + upTo(0, light ? 1 : 9) : "").append(";");
        }
        for (int g = 0; g < gangs; g++) {
            t.append("gang ").append((char) ('p' + g)).append(" of ").append((char) ('a' + random.nextInt(houses))).append(" hands ").append(upTo(1, 40))
                    .append(random.nextBoolean() ? " pace " + upTo(0, light ? 2 : 9) : "").append(";\n");
        }
        for (int i = random.nextInt(4); i > 0 && houses > 1; i--) {
            int h = random.nextInt(houses);
            t.append("helped ").append((char) ('a' + h)).append(" by ").append((char) ('a' + (h + 1 + random.nextInt(houses - 1)) % houses))
                    .append(" ").append(upTo(0, random.nextBoolean() ? 2 : 99)).append(";");
        }
        for (int w = 0; w < winds; w++) {
            t.append("wind ").append((char) ('t' + w)).append(" ").append(upTo(0, light ? 15 : 60)).append(" of ").append(upTo(1, 99)).append(";");
        }
        t.append(lawFirst ? "" : law);
        return t.length() > 900 ? t.substring(0, 900) : t.toString();
    }

    private String yearsText() {
        StringBuilder t = new StringBuilder();
        steps(t, 0, 1 + random.nextInt(6));
        return t.length() > 300 ? t.substring(0, 300) : t.toString();
    }

    private void steps(StringBuilder t, int depth, int many) {
        for (int i = 0; i < many; i++) {
            char house = (char) ('a' + random.nextInt(4));
            char gang = (char) ('p' + random.nextInt(2));
            switch (random.nextInt(9)) {
                case 0, 1 -> t.append("hour ").append(upTo(1, 60)).append("; ");
                case 2 -> t.append("gale;");
                case 3 -> t.append("dawn;");
                case 4 -> t.append("lift ").append(house).append(" with ").append(gang).append(";");
                case 5 -> t.append("rest ").append(gang).append(";");
                case 6 -> {
                    String[] tests = {"off " + house, "stands " + house, "worth<" + random.nextInt(3000), "worth > " + random.nextInt(3000), "worth=0"};
                    t.append("when ").append(tests[random.nextInt(5)]).append(";");
                    steps(t, depth + 1, random.nextInt(depth > 1 ? 1 : 4));
                    t.append("end;");
                }
                case 7 -> {
                    t.append("loop ").append(upTo(1, random.nextBoolean() ? 4 : 99)).append(";");
                    steps(t, depth + 1, random.nextInt(depth > 1 ? 1 : 4));
                    t.append("end;");
                }
                default -> t.append(random.nextInt(3) == 0 ? "stop;" : "gale;");
            }
        }
    }

    /** A text of which one part stands again and again, with new names at times. */
    private String again(String text) {
        String[] parts = text.split("(?<=;)");
        String part = parts[random.nextInt(parts.length)];
        StringBuilder whole = new StringBuilder(text);
        for (int i = random.nextInt(40); i >= 0 && whole.length() + part.length() < 290 + random.nextInt(600); i--) {
            whole.append(random.nextInt(30) == 0 ? part : part.replaceFirst("^\\s*(house|gang|wind) [a-z]+", "$1 z" + (char) ('a' + i % 26)));
        }
        return whole.toString();
    }

    /** A text with one place changed: a word put in, in place of another, left out, or the end cut off. */
    private String broken(String text) {
        List<String> parts = new ArrayList<>(Arrays.asList(text.split("(?<=[; \n])|(?=[; \n])")));
        int i = random.nextInt(parts.size());
        String word = WORDS[random.nextInt(WORDS.length)];
        if (random.nextInt(3) == 0) {
            return again(text);
        }
        switch (random.nextInt(5)) {
            case 0 -> parts.add(i, " " + word + " ");
            case 1 -> parts.set(i, " " + word + " ");
            case 2 -> parts.remove(i);
            case 3 -> parts.add(random.nextInt(parts.size()), parts.get(i));
            default -> parts = parts.subList(0, i);
        }
        String whole = String.join("", parts);
        return whole.length() > 900 ? whole.substring(0, 900) : whole;
    }
}
