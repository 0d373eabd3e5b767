import java.lang.reflect.Method;

/** Every call with the widest arguments of int and long, and those beside 0, in each place, on an empty and on a full day. */
public final class WideTest {
    private static final int[] WIDE = {Integer.MIN_VALUE, Integer.MIN_VALUE + 1, -1, 0, 1, 2, Integer.MAX_VALUE - 1, Integer.MAX_VALUE};
    private static final int[] FEW = {Integer.MIN_VALUE, -1, 0, 1, Integer.MAX_VALUE};
    private static final long[] LONGS = {Long.MIN_VALUE, Long.MIN_VALUE + 1, -1, 0, 1, 1L << 31, 1L << 32, Long.MAX_VALUE};
    private static final int CALLS = 480;

    public static void main(String[] args) throws ReflectiveOperationException {
        for (Method m : Both.methods()) {
            for (int day = 0; day < 3; day++) {
                all(m, day);
            }
        }
        Check.end("WideTest");
    }

    private static Both dayOf(int day) throws ReflectiveOperationException {
        Both both = new Both();
        if (day == 0) {
            return both;
        }
        both.text("shore", "house ann at 3 worth 100 pieces 2 weight 5;house bob at 7 worth 300 pieces 1 weight 9 pegs 1;house cid at 12 worth 50 pieces 3 weight 2;"
                + "gang red of ann hands 8;gang blu of cid hands 4 pace 2;helped ann by bob 3;wind gust 18 of 4;wind storm 60 of 1;law worth;");
        both.text("years", "hour 2;gale;when off bob;stop;end;dawn;");
        for (int t = 0; t < 3; t++) {
            both.call("tray", t, 3, 3);
            both.call("write", t, 1, 1L);
        }
        both.call("mark");
        if (day == 2) {
            both.call("hour", 10);
            both.call("gale", 13);
            both.call("best", 0, 20);
            both.call("soonest", 0, 1);
            both.call("live", 1);
            both.feed("loop 2;gale;end; house a at 1");
            both.call("mark");
            both.call("mark");
        }
        return both;
    }

    private static void all(Method m, int day) throws ReflectiveOperationException {
        int places = m.getParameterCount();
        int values = places > 3 ? FEW.length : WIDE.length;
        int rows = (int) Math.pow(values, places);
        Both both = dayOf(day);
        for (int row = 0; row < rows; row++) {
            if (both.asked() > CALLS) {
                both.end();
                both = dayOf(day);
            }
            Object[] arguments = new Object[places];
            int left = row;
            for (int i = 0; i < places; i++) {
                int value = left % values;
                left /= values;
                boolean isLong = m.getParameterTypes()[i] == long.class;
                arguments[i] = isLong ? (Object) LONGS[value] : (Object) (places > 3 ? FEW[value] : WIDE[value]);
            }
            both.call(m, arguments);
            if (m.getName().equals("write")) {
                both.call("read", arguments[0], arguments[1]);
            }
            if (m.getName().equals("feed")) {
                both.call(row % 2 == 0 ? "shore" : "years", row % 30);
            }
        }
        both.end();
    }
}
