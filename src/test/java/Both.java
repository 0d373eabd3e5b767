import java.lang.reflect.InvocationTargetException;
import java.lang.reflect.Method;
import java.lang.reflect.Modifier;
import java.nio.charset.StandardCharsets;
import java.util.ArrayList;
import java.util.Arrays;
import java.util.Comparator;
import java.util.List;

/** The class and the plain model behind the same calls: each is asked of both, and all answers must be alike. */
final class Both {
    private final RoofGale x = new RoofGale();
    private final PlainModel plain = new PlainModel();
    private final List<String> log = new ArrayList<>();
    private int asked;

    PlainModel plain() {
        return plain;
    }

    /** How many calls the object has answered; behind its 512th the document promises nothing. */
    int asked() {
        return asked;
    }

    static List<Method> methods() {
        List<Method> all = new ArrayList<>(Arrays.asList(RoofGale.class.getDeclaredMethods()));
        all.removeIf(m -> !Modifier.isPublic(m.getModifiers()));
        all.sort(Comparator.comparing(Method::getName));
        return all;
    }

    static Method method(String name) {
        return methods().stream().filter(m -> m.getName().equals(name)).findFirst().orElseThrow();
    }

    void call(String name, Object... arguments) throws ReflectiveOperationException {
        call(method(name), arguments);
    }

    void call(Method m, Object... arguments) throws ReflectiveOperationException {
        Object got = null;
        try {
            got = m.invoke(x, arguments);
        } catch (InvocationTargetException e) {
            System.out.println(m.getName() + Arrays.toString(arguments) + " threw " + e.getCause());
        }
        Object want = PlainModel.class.getMethod(m.getName(), m.getParameterTypes()).invoke(plain, arguments);
        String what = m.getName() + Arrays.toString(arguments);
        log.add(what);
        asked++;
        same(what, String.valueOf(got), String.valueOf(want));
        if (want.equals(-1) || want.equals(-1L) || want.equals(false)) {
            asked++;
            same("status behind " + what, x.status(), plain.status());
        }
        if (want.equals(true)) {
            sameFraction(what);
        }
        if (List.of("shore", "years").contains(m.getName())) {
            sameFault(what);
        }
    }

    private void sameFraction(String what) {
        asked += 2;
        same("top behind " + what, x.top(), plain.top());
        same("bottom behind " + what, x.bottom(), plain.bottom());
    }

    private void sameFault(String what) {
        asked += 2;
        same("fault behind " + what, x.fault(0), plain.fault(0));
        same("place behind " + what, x.fault(1), plain.fault(1));
    }

    /** What calls of other kinds may not have changed. */
    void end() {
        asked++;
        same("status at the end", x.status(), plain.status());
        sameFraction("the end");
        sameFault("the end");
    }

    private void same(String what, Object got, Object want) {
        boolean equal = got.equals(want);
        Check.due(what, equal, true);
        if (!equal) {
            System.out.println(what + " answered " + got + ", the model " + want + " behind " + log);
            System.exit(1);
        }
    }

    /** Feeds a text, filled up with blanks to whole calls: how many bytes it has itself. */
    int feed(String text) throws ReflectiveOperationException {
        byte[] bytes = text.getBytes(StandardCharsets.ISO_8859_1);
        Method feed = method("feed");
        for (int i = 0; i < bytes.length; i += 20) {
            Object[] five = new Object[5];
            for (int k = 0; k < 5; k++) {
                int four = 0;
                for (int j = i + 4 * k; j < i + 4 * k + 4; j++) {
                    four = four << 8 | (j < bytes.length ? bytes[j] & 255 : ' ');
                }
                five[k] = four;
            }
            call(feed, five);
        }
        return bytes.length;
    }

    void text(String name, String text) throws ReflectiveOperationException {
        call(name, feed(text));
    }
}
