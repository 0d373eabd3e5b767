import java.util.ArrayList;
import java.util.List;
import java.util.function.Consumer;
import java.util.function.Predicate;
import java.util.function.ToLongFunction;

/**
 * Two objects behind the same calls: one is asked what must be refused, then both tell all that can be told of them,
 * which must be alike: "A call with another STATUS than 0 .. changes nothing but STATUS".
 */
final class Twin {
    private final Consumer<RoofGale> calls;

    Twin(Consumer<RoofGale> calls) {
        this.calls = calls;
    }

    RoofGale made() {
        RoofGale x = new RoofGale();
        calls.accept(x);
        return x;
    }

    void refuses(int status, String what, ToLongFunction<RoofGale> call) {
        RoofGale x = made();
        Check.fails(x, what, call.applyAsLong(x), status);
        same(what, x, made(), true);
    }

    void denies(int status, String what, Predicate<RoofGale> call) {
        RoofGale x = made();
        Check.no(x, what, call.test(x), status);
        same(what, x, made(), true);
    }

    /** The same of a text with a FAULT, read from a tape that is empty ahead: only what fault() tells has changed. */
    void refusesText(String what, ToLongFunction<RoofGale> call) {
        RoofGale x = made();
        Check.fails(x, what, call.applyAsLong(x), 10);
        same(what, x, made(), false);
    }

    /** The same of a call that has no STATUS and is to change nothing at all. */
    void leaves(String what, ToLongFunction<RoofGale> call, long answer) {
        RoofGale x = made();
        RoofGale y = made();
        Check.due(what, call.applyAsLong(x), answer);
        Check.due("status behind " + what, x.status(), y.status());
        same(what, x, y, true);
    }

    private static void same(String what, RoofGale x, RoofGale y, boolean withFault) {
        List<String> told = new Teller(x).all(withFault);
        List<String> due = new Teller(y).all(withFault);
        Check.due("notes behind " + what, told.size(), due.size());
        for (int i = 0; i < Math.min(told.size(), due.size()); i++) {
            if (!told.get(i).equals(due.get(i))) {
                System.out.println("behind " + what + ": " + told.get(i) + ", due is " + due.get(i));
            }
            Check.due("note " + i + " behind " + what, told.get(i).equals(due.get(i)), true);
        }
    }

    /** Asks an object all that it can tell. What has a STATUS is noted with it where the answer may be NONE. */
    private static final class Teller {
        private final RoofGale x;
        private final List<String> notes = new ArrayList<>();

        Teller(RoofGale x) {
            this.x = x;
        }

        /** True if the call had STATUS 0. */
        private boolean note(String what, long answer) {
            int status = answer == RoofGale.NONE ? x.status() : 0;
            notes.add(what + " is " + answer + " (" + status + ")");
            return status == 0;
        }

        private void note(String what, boolean answer) {
            notes.add(what + " is " + answer + " (" + (answer ? 0 : x.status()) + ") " + x.top() + " by " + x.bottom());
        }

        List<String> all(boolean withFault) {
            if (withFault) {
                notes.add("fault " + x.fault(0) + " at " + x.fault(1));
            }
            notes.add("fraction " + x.top() + " by " + x.bottom());
            found();
            shore();
            trays();
            tape();
            marks();
            return notes;
        }

        private void found() {
            note("bestSet", x.bestSet());
            int k = 0;
            while (k < 9 && note("order " + k, x.order(k))) {
                k++;
            }
            for (int what = 0; what < 5; what++) {
                note("lived " + what, x.lived(what));
            }
        }

        private void shore() {
            for (int what = 0; what < 10; what++) {
                note("many " + what, x.many(what));
            }
            int houses = x.many(0);
            for (int h = 0; h < houses; h++) {
                for (int what = 0; what < 9; what++) {
                    note("house " + h + ", " + what, x.house(h, what));
                }
                for (int by = 0; by < houses; by++) {
                    note("helped " + h + ", " + by, x.helped(h, by));
                }
            }
            for (int g = x.many(1) - 1; g >= 0; g--) {
                for (int what = 0; what < 6; what++) {
                    note("gang " + g + ", " + what, x.gang(g, what));
                }
            }
            for (int w = x.many(2) - 1; w >= 0; w--) {
                note("wind " + w + ", 0", x.wind(w, 0));
                note("wind " + w + ", 1", x.wind(w, 1));
            }
            note("mean", x.mean(0, 2));
        }

        /** The sort is told by how a number is cut that is wider than all sorts but the widest. */
        private void trays() {
            for (int t = 0; t < 4; t++) {
                int place = 0;
                while (place < 61 && note("read " + t + ", " + place, x.read(t, place))) {
                    place++;
                }
                x.write(t, 0, 0x1122334455667788L);
                note("sort of " + t, x.read(t, 0));
            }
        }

        /** How much is on the tape, and (by the years it makes, or their fault) what. */
        private void tape() {
            int fed = x.feed(0, 0, 0, 0, 0);
            notes.add("fed " + fed);
            note("years of the tape", x.years(fed < 0 ? 300 : Math.min(fed, 300)));
            notes.add("fault in the tape " + x.fault(0) + " at " + x.fault(1));
        }

        private void marks() {
            for (int m = 0; m < 4 && note("back", x.back()); m++) {
                shore();
            }
        }
    }
}
