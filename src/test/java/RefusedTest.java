import java.io.IOException;
import java.util.function.ToLongFunction;

/**
 * Every STATUS that a promise lists, alone and together with each one that is asked later (it is told with "ahead of");
 * behind each refused call a twin tells whether anything but STATUS has changed.
 */
public final class RefusedTest {
    private static final int MIN = Integer.MIN_VALUE;
    private static final int MAX = Integer.MAX_VALUE;

    private static final Twin EMPTY = new Twin(x -> { });
    private static final Twin DAY = new Twin(RefusedTest::day);
    private static final Twin CALM = new Twin(RefusedTest::calm);
    private static final Twin LATE = new Twin(RefusedTest::late);
    private static final Twin HELPED = new Twin(RefusedTest::helpedMost);
    private static final Twin MARKED = new Twin(RefusedTest::markedThrice);
    private static final Twin FED = new Twin(RefusedTest::fedWhole);
    private static final Twin GONE = new Twin(RefusedTest::allGone);
    private static final Twin READ = new Twin(RefusedTest::tapeIsRead);

    public static void main(String[] args) throws IOException, ReflectiveOperationException {
        Sentences.run(RefusedTest.class);
    }

    // ---- what is there ahead of a refused call

    private static final String SHORE = "house ann at 3 worth 100 pieces 2 weight 5;house bob at 7 worth 300 pieces 1 weight 9 pegs 1;"
            + "house cid at 12 worth 50 pieces 3 weight 2 long 2;gang red of ann hands 8;gang blu of cid hands 4 pace 2;helped ann by bob 3;"
            + "wind gust 18 of 4;wind storm 60 of 1;law worth;";

    /** Ann is at the hand of gang 1, bob's roof is off, cid fell; gang 0 has nothing at hand; there is a bit of everything else. */
    private static void day(RoofGale x) {
        Check.shore(x, SHORE);
        Check.years(x, "hour 2;stop;");
        x.mark();
        x.live(7);
        x.tray(0, 0, 3);
        x.write(0, 0, 1);
        x.write(0, 2, -7);
        x.tray(1, 3, 4);
        x.write(1, 1, 1);
        x.write(1, 3, 101);
        x.tray(2, 0, 2);
        x.write(2, 1, 9);
        x.best(0, 20);
        x.soonest(1, 5);
        x.risk(1);
        x.hour(8);
        x.gale(13);
        Check.shore(x, "go;");
        Check.feed(x, "hour 1;stop;");
        x.many(0);
    }

    @Says("0 else.")
    static void theDayIsAsItIsMeantToBe() {
        RoofGale x = DAY.made();
        Check.due("status", x.status(), 0);
        Check.tells(x, "bob is off", x.many(6), 2);
        Check.tells(x, "cid fell", x.many(5), 3);
        Check.tells(x, "minute", x.many(4), 10);
        Check.fails(x, "gang 0 has none", x.gang(0, 4), 8);
        Check.tells(x, "gang 1 has ann", x.gang(1, 4), 0);
        Check.tells(x, "minutes left", x.gang(1, 5), 13);
        Check.tells(x, "lived", x.lived(1), 2);
        Check.tells(x, "the order", x.order(1), 2);
        Check.due("fault", x.fault(0), 2);
        Check.due("fed", x.feed(0, 0, 0, 0, 0), 40);
        Check.tells(x, "marks", x.back(), 0);
    }

    private static void calm(RoofGale x) {
        Check.shore(x, "house a at 0 worth 1 pieces 2 weight 1;house b at 1 worth 1 pieces 1 weight 20 pegs 9;gang g of a hands 4;");
        x.hour(1);
        x.tray(0, 0, 2);
        x.gale(58);
    }

    private static void late(RoofGale x) {
        Check.shore(x, "house a at 0 worth 1 pieces 9 weight 20;gang g of a hands 1;wind w 12 of 1;");
        for (int i = 0; i < 41; i++) {
            x.hour(240);
        }
        x.lift(0, 0);
        x.hour(155);
    }

    private static void helpedMost(RoofGale x) {
        Check.shore(x, "house a at 0 worth 1 pieces 1 weight 1;house b at 0 worth 1 pieces 1 weight 1;helped a by b 95;");
        for (int i = 0; i < 100; i++) {
            x.help(0, 1, 99);
        }
    }

    private static void markedThrice(RoofGale x) {
        Check.shore(x, "house a at 0 worth 1 pieces 1 weight 1;");
        Check.years(x, "gale;");
        for (int m = 0; m < 3; m++) {
            x.hour(10);
            x.mark();
        }
        x.hour(1);
    }

    private static void fedWhole(RoofGale x) {
        for (int i = 0; i < 45; i++) {
            x.feed(0x20202020, 0x67616c65, 0x3b202020, 0x20202020, 0x20202020);
        }
    }

    private static void allGone(RoofGale x) {
        Check.shore(x, "house a at 0 worth 1 pieces 1 weight 1;house b at 0 worth 1 pieces 1 weight 2;gang g of a hands 4;wind v 11 of 1;wind w 12 of 2;");
        x.hour(1);
        x.gale(99);
        x.tray(0, 0, 2);
        x.write(0, 0, 1);
    }

    private static void tapeIsRead(RoofGale x) {
        Check.shore(x, SHORE);
        Check.years(x, "hour 2;stop;");
        x.hour(7);
        x.mark();
    }


    // ---- section 5 itself

    @Says({"STATUS of a call is the first of these that holds: 1 no such TRAY (or sort). 2 no such HOUSE, GANG, WIND. 3 the TRAY is MISSING. "
            + "4 a place that the TRAY has not, or too few numbers. 5 a number that can't be. 6 below 0 (a TRAY's length). 7 one too many. "
            + "8 there is none. 9 it can't be. 10 a FAULT. 11 TRAYS of unlike sorts. 0 else.",
        "A call with another STATUS than 0 gives NONE, or false, and changes nothing but STATUS (but shore(), years() with 10 the tape, and what fault() tells)."})
    static void eachStatusOnce() {
        DAY.denies(1, "tray(4, 0, 1)", x -> x.tray(4, 0, 1));
        DAY.denies(1, "tray(0, 4, 1)", x -> x.tray(0, 4, 1));
        DAY.refuses(2, "house(3, 0)", x -> x.house(3, 0));
        DAY.refuses(2, "gang(2, 0)", x -> x.gang(2, 0));
        DAY.refuses(2, "wind(2, 0)", x -> x.wind(2, 0));
        DAY.refuses(3, "read(3, 0)", x -> x.read(3, 0));
        DAY.refuses(4, "read(0, 3)", x -> x.read(0, 3));
        DAY.refuses(4, "signs(0, 4)", x -> x.signs(0, 4));
        DAY.refuses(5, "many(10)", x -> x.many(10));
        DAY.denies(6, "tray(0, 0, -1)", x -> x.tray(0, 0, -1));
        MARKED.refuses(7, "mark()", x -> x.mark());
        EMPTY.refuses(8, "back()", x -> x.back());
        DAY.refuses(9, "lift(0, 1)", x -> x.lift(0, 1));
        READ.refusesText("shore of a fault", x -> Check.shore(x, "house"));
        READ.refusesText("years of a fault", x -> Check.years(x, "hour"));
        DAY.denies(11, "pour(0, 0, 1, 0, 1)", x -> x.pour(0, 0, 1, 0, 1));
    }

    @Says("status(), fault(), feed(), top(), bottom() have none.")
    static void whatHasNoStatusChangesNothing() {
        FED.leaves("feed of more than 900 bytes", x -> x.feed(1, 2, 3, 4, 5), -1);
        DAY.leaves("fault(2)", x -> x.fault(2), -1);
        DAY.leaves("fault(-1)", x -> x.fault(-1), -1);
        DAY.leaves("fault(0)", x -> x.fault(0), 2);
        DAY.leaves("fault(1)", x -> x.fault(1), 0);
        DAY.leaves("top()", x -> x.top(), 1);
        DAY.leaves("bottom()", x -> x.bottom(), 5);
        DAY.leaves("status()", x -> x.status(), 0);
    }

    // ---- trays

    @Says("(at most 60; 5), all 0 (1; 5; 6).")
    static void tray() {
        for (int wrong : new int[] {-1, 4, MIN, MAX}) {
            DAY.denies(1, "tray " + wrong, x -> x.tray(wrong, 0, 1));
            DAY.denies(1, "tray " + wrong + " ahead of 5", x -> x.tray(wrong, 0, 61));
            DAY.denies(1, "tray " + wrong + " ahead of 6", x -> x.tray(wrong, 0, -1));
            DAY.denies(1, "sort " + wrong, x -> x.tray(0, wrong, 1));
            DAY.denies(1, "sort " + wrong + " ahead of 5", x -> x.tray(0, wrong, MAX));
            DAY.denies(1, "sort " + wrong + " ahead of 6", x -> x.tray(0, wrong, MIN));
            DAY.denies(1, "tray and sort " + wrong, x -> x.tray(wrong, wrong, 1));
        }
        for (int t = 0; t < 4; t++) {
            int tray = t;
            DAY.denies(5, "61 numbers", x -> x.tray(tray, 0, 61));
            DAY.denies(5, "the most numbers", x -> x.tray(tray, 0, MAX));
            DAY.denies(6, "-1 numbers", x -> x.tray(tray, 0, -1));
            DAY.denies(6, "the least numbers", x -> x.tray(tray, 3, MIN));
        }
    }

    @Says("(1; 3; 4).")
    static void writeAndRead() {
        for (int wrong : new int[] {-1, 4, MIN, MAX}) {
            DAY.denies(1, "write to tray " + wrong, x -> x.write(wrong, 0, 5));
            DAY.denies(1, "write to tray " + wrong + " ahead of 4", x -> x.write(wrong, 99, 5));
            DAY.refuses(1, "read of tray " + wrong, x -> x.read(wrong, 0));
            DAY.refuses(1, "read of tray " + wrong + " ahead of 4", x -> x.read(wrong, -1));
        }
        DAY.denies(3, "write to a missing tray", x -> x.write(3, 0, 5));
        DAY.denies(3, "write to a missing tray, ahead of 4", x -> x.write(3, -1, 5));
        DAY.refuses(3, "read of a missing tray", x -> x.read(3, 0));
        DAY.refuses(3, "read of a missing tray, ahead of 4", x -> x.read(3, 60));
        for (int wrong : new int[] {-1, 4, MIN, MAX}) {
            DAY.denies(4, "write to place " + wrong, x -> x.write(1, wrong, Long.MAX_VALUE));
            DAY.refuses(4, "read of place " + wrong, x -> x.read(1, wrong));
        }
    }

    @Says("1, 3 (either), 11, 6, 4, asked in this order.")
    static void pour() {
        for (int wrong : new int[] {-1, 4, MIN, MAX}) {
            DAY.denies(1, "from tray " + wrong, x -> x.pour(wrong, 0, 0, 0, 1));
            DAY.denies(1, "to tray " + wrong, x -> x.pour(0, 0, wrong, 0, 1));
            DAY.denies(1, "from tray " + wrong + " ahead of 3", x -> x.pour(wrong, 0, 3, 0, 1));
            DAY.denies(1, "to tray " + wrong + " ahead of 3", x -> x.pour(3, 0, wrong, 0, 1));
            DAY.denies(1, "ahead of 6", x -> x.pour(0, 0, wrong, 0, -1));
            DAY.denies(1, "ahead of 4", x -> x.pour(wrong, 9, 0, 9, 1));
        }
        DAY.denies(3, "the first", x -> x.pour(3, 0, 0, 0, 1));
        DAY.denies(3, "the second", x -> x.pour(0, 0, 3, 0, 1));
        DAY.denies(3, "both", x -> x.pour(3, 0, 3, 0, 1));
        DAY.denies(3, "ahead of 11 and 6", x -> x.pour(1, 0, 3, 0, -1));
        DAY.denies(3, "ahead of 4", x -> x.pour(0, 9, 3, 9, 9));
        DAY.denies(11, "unlike sorts", x -> x.pour(0, 0, 1, 0, 1));
        DAY.denies(11, "unlike sorts, the other way", x -> x.pour(1, 0, 0, 0, 1));
        DAY.denies(11, "ahead of 6", x -> x.pour(0, 0, 1, 0, -1));
        DAY.denies(11, "ahead of 4", x -> x.pour(0, 9, 1, 9, 9));
        DAY.denies(6, "below 0", x -> x.pour(0, 0, 2, 0, -1));
        DAY.denies(6, "the least, onto itself", x -> x.pour(0, 0, 0, 0, MIN));
        DAY.denies(6, "ahead of 4", x -> x.pour(0, -1, 2, 99, -1));
        DAY.denies(4, "from -1", x -> x.pour(0, -1, 2, 0, 1));
        DAY.denies(4, "to -1", x -> x.pour(0, 0, 2, -1, 1));
        DAY.denies(4, "from 3", x -> x.pour(0, 3, 2, 0, 1));
        DAY.denies(4, "to 2", x -> x.pour(0, 0, 2, 2, 1));
        DAY.denies(4, "one too long for the second", x -> x.pour(0, 0, 2, 0, 3));
        DAY.denies(4, "one too long for the first", x -> x.pour(2, 0, 0, 0, 3));
        DAY.denies(4, "sums that wrap around", x -> x.pour(0, MAX, 0, MAX, MAX));
        DAY.denies(4, "onto itself, beyond its end", x -> x.pour(0, 0, 0, 1, 3));
    }

    // ---- texts

    @Says("(5; 10: the old one stays).")
    static void shore() {
        for (int wrong : new int[] {-1, 21, 901, MIN, MAX}) {
            DAY.refuses(5, "shore of " + wrong, x -> x.shore(wrong));
            READ.refuses(5, "shore of " + wrong, x -> x.shore(wrong));
        }
        FED.refuses(5, "shore of 901", x -> x.shore(901));
        EMPTY.refuses(5, "shore of 1", x -> x.shore(1));
        String[] faults = {"?", "go", "house ann at 1 worth 1 pieces 1 weight 1;house ann", "house ann at 61", "law near;law", "helped",
            "house a at 1 worth 1 pieces 1 weight 1;house b at 1 worth 1 pieces 1 weight 1;helped a by b 99;helped b by b"};
        for (String fault : faults) {
            READ.refusesText("shore " + fault, x -> Check.shore(x, fault));
            EMPTY.refusesText("shore " + fault, x -> Check.shore(x, fault));
            MARKED.refusesText("shore " + fault, x -> Check.shore(x, fault));
        }
    }

    @Says("(5: above 300, too; 10).")
    static void years() {
        for (int wrong : new int[] {-1, 21, 301, MIN, MAX}) {
            DAY.refuses(5, "years of " + wrong, x -> x.years(wrong));
            READ.refuses(5, "years of " + wrong, x -> x.years(wrong));
        }
        FED.refuses(5, "years of 301, which the tape has", x -> x.years(301));
        FED.refuses(5, "years of 900", x -> x.years(900));
        String[] faults = {"?", "hour", "gale;rest ann", "gale;hour 0", "gale;".repeat(31), "loop 1;loop 1;loop 1;loop", "dawn;loop 9;"};
        for (String fault : faults) {
            READ.refusesText("years " + fault, x -> Check.years(x, fault));
            EMPTY.refusesText("years " + fault, x -> Check.years(x, fault));
        }
    }

    @Says("(9) (5).")
    static void many() {
        for (int wrong : new int[] {-1, 10, MIN, MAX}) {
            DAY.refuses(5, "many " + wrong, x -> x.many(wrong));
        }
    }

    @Says({"(STATUS tells NONE) (2; 5).", "0 without a HOUSE at hand) (2; 5).", "1: its chances (2; 5)."})
    static void houseGangAndWind() {
        for (int wrong : new int[] {-1, 3, MIN, MAX}) {
            DAY.refuses(2, "house " + wrong, x -> x.house(wrong, 0));
            DAY.refuses(2, "house " + wrong + " ahead of 5", x -> x.house(wrong, 9));
            DAY.refuses(2, "gang " + wrong, x -> x.gang(wrong, 0));
            DAY.refuses(2, "gang " + wrong + " ahead of 5", x -> x.gang(wrong, 6));
            DAY.refuses(2, "gang " + wrong + " ahead of 8", x -> x.gang(wrong, 4));
            DAY.refuses(2, "wind " + wrong, x -> x.wind(wrong, 0));
            DAY.refuses(2, "wind " + wrong + " ahead of 5", x -> x.wind(wrong, 2));
        }
        for (int wrong : new int[] {-1, 9, MIN, MAX}) {
            DAY.refuses(5, "of a house " + wrong, x -> x.house(0, wrong));
            DAY.refuses(5, "of a gang " + wrong, x -> x.gang(0, wrong));
            DAY.refuses(5, "of a wind " + wrong, x -> x.wind(0, wrong));
        }
        DAY.refuses(5, "of a gang 6", x -> x.gang(1, 6));
        DAY.refuses(5, "of a wind 2", x -> x.wind(1, 2));
        DAY.refuses(8, "none at hand", x -> x.gang(0, 4));
        EMPTY.refuses(2, "house 0 of none", x -> x.house(0, 0));
        EMPTY.refuses(2, "gang 0 of none", x -> x.gang(0, 0));
        EMPTY.refuses(2, "wind 0 of none", x -> x.wind(0, 0));
    }

    @Says({"How often a HOUSE was HELPED by another one (2; 5: one and itself).", "(STATUS tells NONE) (2; 5: one and itself)."})
    static void helpedAndQuits() {
        for (int wrong : new int[] {-1, 3, MIN, MAX}) {
            DAY.refuses(2, "helped " + wrong, x -> x.helped(wrong, 0));
            DAY.refuses(2, "helped by " + wrong, x -> x.helped(0, wrong));
            DAY.refuses(2, "helped " + wrong + " ahead of 5", x -> x.helped(wrong, wrong));
            DAY.refuses(2, "quits " + wrong, x -> x.quits(wrong, 0));
            DAY.refuses(2, "quits with " + wrong, x -> x.quits(0, wrong));
            DAY.refuses(2, "quits " + wrong + " ahead of 5", x -> x.quits(wrong, wrong));
        }
        for (int h = 0; h < 3; h++) {
            int house = h;
            DAY.refuses(5, "helped by itself", x -> x.helped(house, house));
            DAY.refuses(5, "quits with itself", x -> x.quits(house, house));
        }
    }

    // ---- lifting

    @Says({"How many minutes a PIECE of a HOUSE takes a GANG (2).", "How many minutes its way to a HOUSE takes a GANG from where it is (2)."})
    static void takesAndWalk() {
        for (int wrong : new int[] {-1, 3, MIN, MAX}) {
            DAY.refuses(2, "takes of gang " + wrong, x -> x.takes(wrong, 0));
            DAY.refuses(2, "takes of house " + wrong, x -> x.takes(0, wrong));
            DAY.refuses(2, "walk of gang " + wrong, x -> x.walk(wrong, 0));
            DAY.refuses(2, "walk to house " + wrong, x -> x.walk(0, wrong));
            DAY.refuses(2, "both", x -> x.walk(wrong, wrong));
        }
        DAY.refuses(2, "takes of gang 2, where there is a house 2", x -> x.takes(2, 2));
        DAY.refuses(2, "walk of gang 2, where there is a house 2", x -> x.walk(2, 2));
    }

    @Says("(2; 9: it has one, ahead of 8: there is none to take).")
    static void next() {
        for (int wrong : new int[] {-1, 2, MIN, MAX}) {
            DAY.refuses(2, "next of " + wrong, x -> x.next(wrong));
        }
        DAY.refuses(9, "it has one, and there is none to take", x -> x.next(1));
        DAY.refuses(8, "there is none to take", x -> x.next(0));
        GONE.refuses(8, "there is none to take", x -> x.next(0));
    }

    @Says("(2; 9: its roof is off, it fell, another GANG has it).")
    static void lift() {
        for (int wrong : new int[] {-1, 3, MIN, MAX}) {
            DAY.refuses(2, "lift by " + wrong, x -> x.lift(wrong, 0));
            DAY.refuses(2, "lift of " + wrong, x -> x.lift(0, wrong));
            DAY.refuses(2, "lift by " + wrong + " ahead of 9", x -> x.lift(wrong, 1));
        }
        for (int g = 0; g < 2; g++) {
            int gang = g;
            DAY.refuses(9, "its roof is off", x -> x.lift(gang, 1));
            DAY.refuses(9, "it fell", x -> x.lift(gang, 2));
        }
        DAY.refuses(9, "another gang has it", x -> x.lift(0, 0));
    }

    @Says("A GANG has nothing at hand (2; 8: it has not).")
    static void rest() {
        for (int wrong : new int[] {-1, 2, MIN, MAX}) {
            DAY.denies(2, "rest of " + wrong, x -> x.rest(wrong));
        }
        DAY.denies(8, "it has not", x -> x.rest(0));
        GONE.denies(8, "it has not", x -> x.rest(0));
    }

    @Says("(5; 7: the MINUTE would be above 9,999).")
    static void hour() {
        for (int wrong : new int[] {0, -1, 241, MIN, MAX}) {
            DAY.refuses(5, "hour of " + wrong, x -> x.hour(wrong));
            LATE.refuses(5, "hour of " + wrong + " ahead of 7", x -> x.hour(wrong));
        }
        LATE.refuses(7, "10,000", x -> x.hour(5));
        LATE.refuses(7, "10,235", x -> x.hour(240));
        RoofGale x = LATE.made();
        Check.tells(x, "the minute", x.many(4), 9995);
        Check.tells(x, "9,999", x.hour(4), 0);
    }

    @Says({"how many HOUSES fall (5).", "The set of HOUSES that would fall by a strength (0 to 99) (5)."})
    static void galeAndFalls() {
        for (int wrong : new int[] {-1, 100, MIN, MAX}) {
            DAY.refuses(5, "gale of " + wrong, x -> x.gale(wrong));
            DAY.refuses(5, "falls of " + wrong, x -> x.falls(wrong));
        }
    }

    @Says("(1 to 99): how often it was then (2; 5; 7: above 9,999).")
    static void help() {
        for (int wrong : new int[] {-1, 3, MIN, MAX}) {
            DAY.refuses(2, "help of " + wrong, x -> x.help(wrong, 0, 1));
            DAY.refuses(2, "help by " + wrong, x -> x.help(0, wrong, 1));
            DAY.refuses(2, "help ahead of 5, itself", x -> x.help(wrong, wrong, 1));
            DAY.refuses(2, "help ahead of 5, times", x -> x.help(0, wrong, 0));
        }
        for (int wrong : new int[] {0, -1, 100, MIN, MAX}) {
            DAY.refuses(5, wrong + " times", x -> x.help(0, 1, wrong));
            DAY.refuses(5, wrong + " times, itself", x -> x.help(1, 1, wrong));
        }
        DAY.refuses(5, "itself", x -> x.help(2, 2, 1));
        HELPED.refuses(7, "10,000", x -> x.help(0, 1, 5));
        HELPED.refuses(7, "10,094", x -> x.help(0, 1, 99));
        HELPED.refuses(5, "5 ahead of 7", x -> x.help(0, 1, 100));
        HELPED.refuses(5, "5 ahead of 7", x -> x.help(0, 1, MAX));
        RoofGale x = HELPED.made();
        Check.tells(x, "9,995", x.helped(0, 1), 9995);
        Check.tells(x, "9,999", x.help(0, 1, 4), 9999);
    }

    // ---- what the gale takes

    @Says({"The FRACTION is RISK (2; 8: no WINDS).", "The FRACTION is LOSS (8: no WINDS).", "(5; 8: no WINDS); all stays as it is."})
    static void riskLossAndSaves() {
        for (int wrong : new int[] {-1, 3, MIN, MAX}) {
            DAY.denies(2, "risk of " + wrong, x -> x.risk(wrong));
            CALM.denies(2, "risk of " + wrong + " ahead of 8", x -> x.risk(wrong));
        }
        CALM.denies(8, "risk without winds", x -> x.risk(0));
        EMPTY.denies(2, "risk without houses", x -> x.risk(0));
        CALM.denies(8, "loss without winds", x -> x.loss());
        EMPTY.denies(8, "loss without winds", x -> x.loss());
        for (int wrong : new int[] {0, -1, 241, MIN, MAX}) {
            DAY.denies(5, "saves of " + wrong, x -> x.saves(wrong, 0));
            CALM.denies(5, "saves of " + wrong + " ahead of 8", x -> x.saves(wrong, 0));
        }
        for (int wrong : new int[] {-1, 100, MIN, MAX}) {
            DAY.denies(5, "saves with rain " + wrong, x -> x.saves(1, wrong));
            CALM.denies(5, "saves with rain " + wrong + " ahead of 8", x -> x.saves(1, wrong));
        }
        CALM.denies(8, "saves without winds", x -> x.saves(240, 99));
    }

    @Says({"(8: no WINDS, none whose roof is ON and STANDS).", "of several the first (8: no WINDS)."})
    static void dearestAndWorstWind() {
        CALM.refuses(8, "dearest without winds", x -> x.dearest());
        EMPTY.refuses(8, "dearest of nothing", x -> x.dearest());
        GONE.refuses(8, "dearest where no roof is on that stands", x -> x.dearest());
        CALM.refuses(8, "worst of no winds", x -> x.worstWind());
        EMPTY.refuses(8, "worst of no winds", x -> x.worstWind());
    }

    // ---- the best order

    @Says({"BEST for a GANG in n minutes (0 to 240): the WORTH (2; 5).", "(8: there was none)."})
    static void bestAndBestSet() {
        for (int wrong : new int[] {-1, 2, MIN, MAX}) {
            DAY.refuses(2, "best of gang " + wrong, x -> x.best(wrong, 9));
            DAY.refuses(2, "best of gang " + wrong + " ahead of 5", x -> x.best(wrong, 241));
        }
        for (int wrong : new int[] {-1, 241, MIN, MAX}) {
            DAY.refuses(5, "best in " + wrong, x -> x.best(0, wrong));
        }
        EMPTY.refuses(8, "no best", x -> x.bestSet());
        CALM.refuses(8, "no best", x -> x.bestSet());
    }

    @Says({"(2; 5: no such HOUSES; 9: one whose roof is off, that fell).", "by soonest() latest with STATUS 0 (8: no such)."})
    static void soonestAndOrder() {
        for (int wrong : new int[] {-1, 2, MIN, MAX}) {
            DAY.refuses(2, "soonest of gang " + wrong, x -> x.soonest(wrong, 1));
            DAY.refuses(2, "soonest of gang " + wrong + " ahead of 5", x -> x.soonest(wrong, 8));
            DAY.refuses(2, "soonest of gang " + wrong + " ahead of 9", x -> x.soonest(wrong, 2));
        }
        for (int wrong : new int[] {-1, 8, 9, 256, MIN, MAX}) {
            DAY.refuses(5, "soonest of set " + wrong, x -> x.soonest(0, wrong));
        }
        DAY.refuses(5, "no such house, ahead of 9", x -> x.soonest(0, 10));
        DAY.refuses(9, "its roof is off", x -> x.soonest(0, 2));
        DAY.refuses(9, "it fell", x -> x.soonest(1, 4));
        DAY.refuses(9, "one of three stands with its roof on", x -> x.soonest(1, 7));
        for (int wrong : new int[] {-1, 2, 8, MIN, MAX}) {
            DAY.refuses(8, "order " + wrong, x -> x.order(wrong));
        }
        EMPTY.refuses(8, "no order", x -> x.order(0));
    }

    @Says({"SHARED in n minutes (0 to 240): the WORTH (5).", "(8: not in 999)."})
    static void sharedAndAllOff() {
        for (int wrong : new int[] {-1, 241, MIN, MAX}) {
            DAY.refuses(5, "shared in " + wrong, x -> x.shared(wrong));
        }
        HELPED.refuses(8, "no gangs", x -> x.allOff());
        Twin slow = new Twin(x -> Check.shore(x, "house a at 0 worth 1 pieces 9 weight 20 pegs 9;gang g of a hands 1;"));
        slow.refuses(8, "1,044 minutes", x -> x.allOff());
    }

    // ---- prophets, debts

    @Says({"(1; 3; 4; 5: n, 0 to 100, 0 or 1; asked as 1, 3, 4, 5).", "WORDS' WORTH (likewise);"})
    static void scoreAndWords() {
        int[][] refused = {{1, -1, 1, 1}, {1, 4, 1, 1}, {1, MIN, 1, 1}, {1, MAX, 1, 1}, {1, 0, -1, 1}, {1, 0, 4, 1}, {1, 0, MIN, 1}, {1, 0, MAX, 1},
            {1, 4, 3, 1}, {1, 3, 4, 1}, {1, 4, 1, 99}, {1, 4, 1, 0}, {3, 3, 1, 1}, {3, 0, 3, 1}, {3, 3, 1, 99}, {3, 0, 3, 0}, {3, 3, 3, MIN},
            {4, 0, 1, 4}, {4, 1, 0, 4}, {4, 0, 1, 60}, {4, 0, 1, 61}, {4, 0, 1, MAX}, {4, 1, 2, 3}, {5, 0, 1, 0}, {5, 0, 1, -1}, {5, 0, 1, MIN},
            {5, 0, 1, 3}, {5, 1, 0, 3}, {5, 1, 1, 4}, {5, 1, 2, 2}};
        for (int[] r : refused) {
            String what = r[1] + ", " + r[2] + ", " + r[3];
            DAY.refuses(r[0], "score of " + what, x -> x.score(r[1], r[2], r[3]));
            DAY.refuses(r[0], "words of " + what, x -> x.words(r[1], r[2], r[3]));
        }
    }

    @Says({"OWED (8: no HOUSES).", "CHAIN: a set (2)."})
    static void owedAndChain() {
        EMPTY.refuses(8, "owed of none", x -> x.owed());
        for (int wrong : new int[] {-1, 3, MIN, MAX}) {
            DAY.refuses(2, "chain of " + wrong, x -> x.chain(wrong));
        }
    }

    // ---- the ground, slates

    @Says("GROUND (5; 9).")
    static void ground() {
        for (int wrong : new int[] {0, -1, 100, MIN, MAX}) {
            DAY.refuses(5, "ground of " + wrong, x -> x.ground(wrong));
        }
        for (int room = 1; room <= 3; room++) {
            int less = room;
            DAY.refuses(9, "a roof of 4 in " + room, x -> x.ground(less));
        }
        RoofGale x = DAY.made();
        Check.tells(x, "a roof of 4 in 4", x.ground(4), 1);
    }

    @Says("(1; 3; 4; 5: n; 2: a number that is no HOUSE; asked in this order).")
    static void signs() {
        int[][] refused = {{1, -1, 1}, {1, 4, 1}, {1, MIN, 1}, {1, MAX, 1}, {1, 4, 99}, {1, 4, 0}, {3, 3, 1}, {3, 3, 99}, {3, 3, 0}, {4, 0, 4}, {4, 0, 61},
            {4, 0, MAX}, {4, 1, 5}, {5, 0, 0}, {5, 0, -1}, {5, 0, MIN}, {5, 1, 0}, {2, 0, 3}, {2, 1, 4}, {2, 2, 2}};
        for (int[] r : refused) {
            DAY.refuses(r[0], "signs of " + r[1] + ", " + r[2], x -> x.signs(r[1], r[2]));
        }
        Twin none = new Twin(x -> x.tray(0, 0, 1));
        none.refuses(2, "no houses", x -> x.signs(0, 1));
        none.refuses(5, "5 ahead of 2", x -> x.signs(0, 0));
        none.refuses(4, "4 ahead of 2", x -> x.signs(0, 2));
    }

    @Says({"(1; 3; 4: fewer than HOUSES; 5: not 0, 1; asked in this order).", "LIKELIEST (likewise; 8: none)."})
    static void flownAndLikeliest() {
        int[][] refused = {{1, -1}, {1, 4}, {1, MIN}, {1, MAX}, {3, 3}, {4, 2}, {5, 0}};
        for (int[] r : refused) {
            DAY.refuses(r[0], "flown of " + r[1], x -> x.flown(r[1]));
            DAY.refuses(r[0], "likeliest of " + r[1], x -> x.likeliest(r[1]));
        }
        CALM.refuses(8, "likeliest without winds", x -> x.likeliest(0));
        Twin none = new Twin(x -> {
            Check.shore(x, "house a at 0 worth 1 pieces 1 weight 1;wind w 11 of 1;");
            x.tray(0, 0, 1);
            x.write(0, 0, 1);
        });
        none.refuses(8, "by no wind", x -> x.likeliest(0));
    }

    @Says("(2; 8: none).")
    static void neighbour() {
        for (int wrong : new int[] {-1, 3, MIN, MAX}) {
            DAY.refuses(2, "neighbour of " + wrong, x -> x.neighbour(wrong));
        }
        Twin one = new Twin(x -> {
            Check.shore(x, "house a at 0 worth 1 pieces 1 weight 1;house b at 0 worth 1 pieces 1 weight 2;");
            x.gale(12);
        });
        one.refuses(8, "the other fell", x -> x.neighbour(1));
        one.refuses(2, "2 ahead of 8", x -> x.neighbour(2));
    }

    // ---- years, marks

    @Says({"(5; 8: no YEARS).", "(5; 8: there was none).", "(5: the last above 9,999, too; 8)."})
    static void liveLivedAndMean() {
        for (int wrong : new int[] {-1, 10000, MIN, MAX}) {
            DAY.refuses(5, "live by " + wrong, x -> x.live(wrong));
            CALM.refuses(5, "live by " + wrong + " ahead of 8", x -> x.live(wrong));
            DAY.denies(5, "mean from " + wrong, x -> x.mean(wrong, 1));
            CALM.denies(5, "mean from " + wrong + " ahead of 8", x -> x.mean(wrong, 1));
        }
        CALM.refuses(8, "no years", x -> x.live(0));
        for (int wrong : new int[] {-1, 5, MIN, MAX}) {
            DAY.refuses(5, "lived " + wrong, x -> x.lived(wrong));
            CALM.refuses(5, "lived " + wrong + " ahead of 8", x -> x.lived(wrong));
        }
        CALM.refuses(8, "none was lived", x -> x.lived(0));
        for (int wrong : new int[] {0, -1, 21, MIN, MAX}) {
            DAY.denies(5, "mean of " + wrong, x -> x.mean(0, wrong));
            CALM.denies(5, "mean of " + wrong + " ahead of 8", x -> x.mean(0, wrong));
        }
        DAY.denies(5, "the last is 10,000", x -> x.mean(9999, 2));
        DAY.denies(5, "the last is 10,000", x -> x.mean(9981, 20));
        CALM.denies(5, "the last is 10,000, ahead of 8", x -> x.mean(9999, 2));
        CALM.denies(8, "no years", x -> x.mean(9999, 1));
    }

    @Says({"A MARK more: how many there are (7).", "All is taken back to the latest MARK: how many there are left (8)."})
    static void markAndBack() {
        MARKED.refuses(7, "a fourth mark", x -> x.mark());
        EMPTY.refuses(8, "back to no mark", x -> x.back());
        CALM.refuses(8, "back to no mark", x -> x.back());
    }
}
