import java.io.IOException;

/** The bounds of trays: how many, which sorts, how long, and what is cut off. */
public final class BoundsTrayTest {
    private static final int[] WIDEST = {Integer.MIN_VALUE, Integer.MIN_VALUE + 1, Integer.MAX_VALUE - 1, Integer.MAX_VALUE};

    public static void main(String[] args) throws IOException, ReflectiveOperationException {
        Sentences.run(BoundsTrayTest.class);
    }

    @Says("TRAYS are MISSING, a SHORE without HOUSES, GANGS, WINDS, no YEARS, MARKS, an empty tape; STATUS 0, the FRACTION 0 by 1.")
    static void aNewObjectHasNothing() {
        RoofGale x = new RoofGale();
        Check.due("status", x.status(), 0);
        Check.due("top", x.top(), 0);
        Check.due("bottom", x.bottom(), 1);
        for (int t = 0; t < 4; t++) {
            Check.fails(x, "a tray", x.read(t, 0), 3);
        }
        for (int what = 0; what < 3; what++) {
            Check.tells(x, "houses, gangs, winds", x.many(what), 0);
        }
        Check.fails(x, "years", x.live(0), 8);
        Check.fails(x, "marks", x.back(), 8);
        Check.fails(x, "a byte of the tape", x.shore(1), 5);
        Check.due("the first bytes of the tape", x.feed(0, 0, 0, 0, 0), 20);
    }

    @Says("TRAYS, 0 to 3, are MISSING at first,")
    static void thereAreFourTrays() {
        RoofGale x = new RoofGale();
        for (int t = 0; t <= 3; t++) {
            Check.fails(x, "tray " + t, x.read(t, 0), 3);
            Check.yes(x, "tray " + t, x.tray(t, 0, 1));
            Check.tells(x, "tray " + t, x.read(t, 0), 0);
        }
        Check.no(x, "tray -1", x.tray(-1, 0, 1), 1);
        Check.no(x, "tray 4", x.tray(4, 0, 1), 1);
        for (int t : WIDEST) {
            Check.no(x, "tray " + t, x.tray(t, 0, 1), 1);
            Check.fails(x, "tray " + t, x.read(t, 0), 1);
            Check.no(x, "tray " + t, x.write(t, 0, 1), 1);
        }
    }

    @Says("or rows of numbers of 8 bits (sort 0), 16 (1), 32 (2) or 64 (3), with sign; what is written is cut to these.")
    static void whatIsWrittenIsCutToItsSort() {
        for (int sort = 0; sort <= 3; sort++) {
            long most = Long.MAX_VALUE >> 64 - (8 << sort);
            long least = -most - 1;
            boolean whole = sort == 3;
            cut(sort, 0, 0);
            cut(sort, 1, 1);
            cut(sort, -1, -1);
            cut(sort, most, most);
            cut(sort, least, least);
            cut(sort, most + 1, least);
            cut(sort, least - 1, most);
            cut(sort, Long.MAX_VALUE, whole ? Long.MAX_VALUE : -1);
            cut(sort, Long.MIN_VALUE, whole ? Long.MIN_VALUE : 0);
            cut(sort, 1L << 62, whole ? 1L << 62 : 0);
            cut(sort, 2 * most + 2, 0);
        }
        cut(0, 255, -1);
        cut(0, 256, 0);
        cut(1, 65535, -1);
        cut(1, 65536, 0);
        cut(2, 4294967295L, -1);
        cut(2, 4294967296L, 0);
    }

    private static void cut(int sort, long written, long due) {
        RoofGale x = new RoofGale();
        x.tray(sort, sort, 3);
        Check.yes(x, "write " + written, x.write(sort, 1, written));
        Check.tells(x, written + " by sort " + sort, x.read(sort, 1), due);
        Check.tells(x, "the place ahead", x.read(sort, 0), 0);
        Check.tells(x, "the place behind", x.read(sort, 2), 0);
    }

    @Says("A TRAY is a row of so many numbers (at most 60; 5), all 0 (1; 5; 6).")
    static void aTrayHasSixtyNumbersAtMost() {
        for (int many : new int[] {0, 1, 59, 60}) {
            RoofGale x = new RoofGale();
            Check.yes(x, many + " numbers", x.tray(1, 3, many));
            for (int place = 0; place < many; place++) {
                Check.tells(x, "all 0", x.read(1, place), 0);
                x.write(1, place, -1 - place);
            }
            Check.fails(x, "one more than " + many, x.read(1, many), 4);
            Check.no(x, "61 numbers", x.tray(1, 3, 61), 5);
            Check.no(x, "the most numbers", x.tray(1, 3, Integer.MAX_VALUE), 5);
            Check.no(x, "-1 numbers", x.tray(1, 3, -1), 6);
            Check.no(x, "the least numbers", x.tray(1, 3, Integer.MIN_VALUE), 6);
            for (int place = 0; place < many; place++) {
                Check.tells(x, "what was refused changes nothing", x.read(1, place), -1 - place);
            }
            Check.fails(x, "nor how many there are", x.read(1, many), 4);
        }
    }

    @Says("A TRAY is a row of so many numbers")
    static void thereAreFourSorts() {
        RoofGale x = new RoofGale();
        for (int sort = 0; sort <= 3; sort++) {
            Check.yes(x, "sort " + sort, x.tray(0, sort, 1));
        }
        Check.no(x, "sort -1", x.tray(0, -1, 1), 1);
        Check.no(x, "sort 4", x.tray(0, 4, 1), 1);
        for (int sort : WIDEST) {
            Check.no(x, "sort " + sort, x.tray(0, sort, 1), 1);
        }
    }

    @Says("A TRAY is a row of so many numbers (at most 60; 5), all 0")
    static void aTrayLaidAgainIsAllZero() {
        RoofGale x = new RoofGale();
        x.tray(2, 2, 60);
        for (int place = 0; place < 60; place++) {
            x.write(2, place, 9);
        }
        Check.yes(x, "a shorter one", x.tray(2, 2, 1));
        Check.yes(x, "a longer one", x.tray(2, 1, 60));
        for (int place = 0; place < 60; place++) {
            Check.tells(x, "all 0", x.read(2, place), 0);
        }
    }

    @Says("A number comes to a place of a TRAY (1; 3; 4).")
    static void theFirstAndTheLastPlaceAreWritten() {
        for (int many : new int[] {1, 2, 60}) {
            RoofGale x = new RoofGale();
            x.tray(0, 3, many);
            Check.yes(x, "the last place", x.write(0, many - 1, 7));
            Check.yes(x, "the first place", x.write(0, 0, 8));
            Check.tells(x, "the last place", x.read(0, many - 1), many == 1 ? 8 : 7);
            Check.no(x, "ahead of the first", x.write(0, -1, 9), 4);
            Check.no(x, "behind the last", x.write(0, many, 9), 4);
            for (int place : WIDEST) {
                Check.no(x, "place " + place, x.write(0, place, 9), 4);
            }
        }
        RoofGale none = new RoofGale();
        none.tray(0, 3, 0);
        Check.no(none, "a tray of 0 numbers has no place", none.write(0, 0, 9), 4);
    }

    @Says("The number in a place of a TRAY; STATUS tells NONE from -1 (1; 3; 4).")
    static void noneIsToldFromMinusOne() {
        RoofGale x = new RoofGale();
        for (int sort = 0; sort <= 3; sort++) {
            x.tray(sort, sort, 60);
            x.write(sort, 59, -1);
            Check.due("-1", x.read(sort, 59), -1);
            Check.due("STATUS of -1", x.status(), 0);
            Check.due("NONE", x.read(sort, 60), -1);
            Check.due("STATUS of NONE", x.status(), 4);
            Check.fails(x, "ahead of the first", x.read(sort, -1), 4);
        }
        for (int place : WIDEST) {
            Check.fails(x, "place " + place, x.read(0, place), 4);
        }
    }

    private static RoofGale filled(int many) {
        RoofGale x = new RoofGale();
        x.tray(0, 3, many);
        x.tray(1, 3, many);
        for (int place = 0; place < many; place++) {
            x.write(0, place, place + 1);
        }
        return x;
    }

    private static void row(String what, RoofGale x, int tray, long... due) {
        for (int place = 0; place < due.length; place++) {
            Check.tells(x, what + " in place " + place, x.read(tray, place), due[place]);
        }
    }

    @Says("So many numbers from place i on of a TRAY come to place j on of another one, or the same, as they were:")
    static void pourTakesNoneOneAndAll() {
        RoofGale x = filled(60);
        Check.yes(x, "all 60", x.pour(0, 0, 1, 0, 60));
        for (int place = 0; place < 60; place++) {
            Check.tells(x, "all came", x.read(1, place), place + 1);
        }
        Check.no(x, "61", x.pour(0, 0, 1, 0, 61), 4);
        Check.yes(x, "the last to the first", x.pour(0, 59, 1, 0, 1));
        row("the last", x, 1, 60, 2);
        Check.yes(x, "the first to the last", x.pour(0, 0, 1, 59, 1));
        Check.tells(x, "the first", x.read(1, 59), 1);
        Check.no(x, "one behind the last", x.pour(0, 60, 1, 0, 1), 4);
        Check.no(x, "one behind the last", x.pour(0, 0, 1, 60, 1), 4);
        Check.no(x, "two at the last", x.pour(0, 59, 1, 0, 2), 4);
        Check.no(x, "two at the last", x.pour(0, 0, 1, 59, 2), 4);
        Check.yes(x, "none", x.pour(0, 60, 1, 60, 0));
        RoofGale none = filled(0);
        Check.yes(none, "none of none", none.pour(0, 0, 1, 0, 0));
        Check.no(none, "one of none", none.pour(0, 0, 1, 0, 1), 4);
    }

    @Says("or the same, as they were:")
    static void pourOntoItselfKeepsWhatWas() {
        RoofGale x = filled(5);
        Check.yes(x, "up", x.pour(0, 0, 0, 1, 4));
        row("up", x, 0, 1, 1, 2, 3, 4);
        x = filled(5);
        Check.yes(x, "down", x.pour(0, 1, 0, 0, 4));
        row("down", x, 0, 2, 3, 4, 5, 5);
        x = filled(5);
        Check.yes(x, "onto its place", x.pour(0, 0, 0, 0, 5));
        row("onto its place", x, 0, 1, 2, 3, 4, 5);
    }

    @Says("1, 3 (either), 11, 6, 4, asked in this order.")
    static void pourIsRefusedAtBothEnds() {
        RoofGale x = filled(3);
        x.tray(2, 2, 3);
        for (int wrong : new int[] {-1, 4, Integer.MIN_VALUE, Integer.MAX_VALUE}) {
            Check.no(x, "from tray " + wrong, x.pour(wrong, 0, 0, 0, 1), 1);
            Check.no(x, "to tray " + wrong, x.pour(0, 0, wrong, 0, 1), 1);
        }
        Check.no(x, "the first is missing", x.pour(3, 0, 0, 0, 1), 3);
        Check.no(x, "the second is missing", x.pour(0, 0, 3, 0, 1), 3);
        Check.no(x, "unlike sorts", x.pour(0, 0, 2, 0, 1), 11);
        Check.no(x, "unlike sorts, of no numbers", x.pour(0, 0, 2, 0, 0), 11);
        Check.no(x, "below 0", x.pour(0, 0, 1, 0, -1), 6);
        Check.no(x, "the least", x.pour(0, 0, 1, 0, Integer.MIN_VALUE), 6);
        for (int place : new int[] {-1, 3, Integer.MIN_VALUE, Integer.MAX_VALUE}) {
            Check.no(x, "from place " + place, x.pour(0, place, 1, 0, 1), 4);
            Check.no(x, "to place " + place, x.pour(0, 0, 1, place, 1), 4);
        }
        Check.no(x, "none from place -1", x.pour(0, -1, 1, 0, 0), 4);
        Check.no(x, "none to place 4", x.pour(0, 0, 1, 4, 0), 4);
        Check.no(x, "a sum that wraps around", x.pour(0, Integer.MAX_VALUE, 1, 0, Integer.MAX_VALUE), 4);
        Check.no(x, "a sum that wraps around to 1", x.pour(0, 0, 1, Integer.MIN_VALUE, Integer.MAX_VALUE), 4);
        Check.no(x, "a sum that wraps around", x.pour(0, 2, 1, 2, Integer.MAX_VALUE), 4);
    }
}
