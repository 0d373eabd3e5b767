import java.io.IOException;

/** The bounds of years: their text and its FAULTS, steps that are missed, the 300 steps, draws, seeds, marks, fractions. */
public final class BoundsYearsTest {
    private static final String LIGHT = "house a at 0 worth 1 pieces 1 weight 1;gang g of a hands 4;";

    public static void main(String[] args) throws IOException, ReflectiveOperationException {
        Sentences.run(BoundsYearsTest.class);
    }

    private static void taken(String years, int steps) {
        RoofGale x = Check.at();
        Check.tells(x, years, Check.years(x, years), steps);
        Check.due("no fault in " + years, x.fault(0), 0);
    }

    private static int lived(RoofGale x, String years, int seed) {
        Check.years(x, years);
        Check.due("years are taken: " + years, x.status(), 0);
        return x.live(seed);
    }

    // ---- the text

    @Says({"YEARS are a TEXT of at most 300 bytes, of such TOKENS (none at first).", "Likewise the YEARS: how many STEPS (5: above 300, too; 10)."})
    static void yearsHaveThreeHundredBytes() {
        StringBuilder text = new StringBuilder("stop");
        while (text.length() < 299) {
            text.append(text.length() % 3 == 0 ? '\n' : ' ');
        }
        RoofGale x = new RoofGale();
        Check.fails(x, "none at first", x.live(0), 8);
        Check.tells(x, "the last of 300 bytes counts", Check.years(x, text + ";"), 1);
        Check.feed(x, text + ";");
        Check.fails(x, "299 of them", x.years(299), 10);
        Check.due("the text's length", x.fault(1), 299);
        Check.feed(x, text + " ;");
        Check.fails(x, "301", x.years(301), 5);
        Check.fails(x, "320", x.years(320), 5);
        Check.fails(x, "more than there are", x.years(321), 5);
        for (int wrong : new int[] {-1, Integer.MIN_VALUE, Integer.MAX_VALUE}) {
            Check.fails(x, wrong + " bytes", x.years(wrong), 5);
        }
        Check.tells(x, "the years ahead stay", x.live(0), 1);
        Check.fails(x, "5 leaves the tape: 300 of 301", x.years(300), 10);
        Check.due("the text's length", x.fault(1), 300);
        Check.fails(x, "10 takes the tape", x.years(1), 5);
        Check.tells(x, "the years ahead stay", x.live(0), 1);
        Check.tells(x, "no bytes", x.years(0), 0);
        Check.tells(x, "years without a step are years", x.live(0), 0);
    }

    @Says("Likewise the YEARS: how many STEPS")
    static void theFirstBytesOfTheTapeAreTheYears() {
        RoofGale x = new RoofGale();
        Check.feed(x, "gale;dawn; stop; !");
        Check.tells(x, "the first alone", x.years(10), 2);
        Check.fails(x, "the tape is empty", x.years(1), 5);
        Check.feed(x, "gale;");
        Check.fails(x, "more than there are", x.years(21), 5);
        Check.tells(x, "all, blanks behind", x.years(20), 1);
    }

    @Says("YEARS: {STEP}. STEP: hour NUMBER ; or gale ; or dawn ; or lift NAME with NAME ; or rest NAME ; or when TEST ; {STEP} end ; "
            + "or loop NUMBER ; {STEP} end ; or stop ; TEST: off NAME, or stands NAME, or worth COMPARES NUMBER. COMPARES: < or > or =")
    static void everyStepCutAndBrokenAtEachToken() {
        String[] steps = {"hour 5 ;", "gale ;", "dawn ;", "lift ann with red ;", "rest red ;", "when off ann ; end ;", "when stands ann ; end ;",
            "when worth < 5 ; end ;", "when worth > 5 ; end ;", "when worth = 5 ; end ;", "loop 5 ; end ;", "stop ;"};
        for (String step : steps) {
            taken(step, 1);
            String[] tokens = step.split(" ");
            StringBuilder ahead = new StringBuilder();
            for (int i = 0; i < tokens.length; i++) {
                if (i > 0) {
                    Check.yearsFault(ahead.toString(), 2, ahead.length());
                    Check.yearsFault(ahead + "\n ", 2, ahead.length() + 2);
                }
                boolean number = Character.isDigit(tokens[i].charAt(0));
                boolean compares = "<>=".contains(tokens[i]);
                Check.yearsFault(ahead + "by", 2, ahead.length());
                Check.yearsFault(ahead + (compares ? ";" : "="), 2, ahead.length());
                Check.yearsFault(ahead + "?", 1, ahead.length());
                Check.yearsFault(ahead + "12345", 1, ahead.length());
                Check.yearsFault(ahead + (number ? "stop" : "1"), 2, ahead.length());
                if (!tokens[i].equals(";")) {
                    Check.yearsFault(ahead + ";end;", 2, ahead.length());
                }
                ahead.append(tokens[i]).append(' ');
            }
        }
        taken("", 0);
        taken("\n \n", 0);
        taken("when off ann;gale;dawn;end;loop 2;when off bob;stop;end;end;", 6);
    }

    @Says("FAULTS: 1, 2 as above (an end without a beginning; the text's end ahead of an end: 2).")
    static void endsAndBeginnings() {
        Check.yearsFault("end;", 2, 0);
        Check.yearsFault(" end", 2, 1);
        Check.yearsFault("loop 1;end;end;", 2, 11);
        Check.yearsFault("gale;end;", 2, 5);
        Check.yearsFault("loop 1;", 2, 7);
        Check.yearsFault("loop 1; ", 2, 8);
        Check.yearsFault("when off ann;gale;", 2, 18);
        Check.yearsFault("loop 1;loop 1;end;", 2, 18);
        Check.yearsFault("loop 1;end", 2, 10);
        Check.yearsFault("loop 1;end gale;", 2, 11);
        Check.yearsFault("house", 2, 0);
        Check.yearsFault("gales;", 2, 0);
        Check.yearsFault("rest abcdefghi;", 2, 5);
        Check.yearsFault("Gale;", 1, 0);
        Check.yearsFault("hour 00001;", 1, 5);
        Check.yearsFault("hour 1\t;", 1, 6);
        Check.yearsFault("when worth < 10000;", 1, 13);
    }

    @Says("3 a NAME that is no such one (a HOUSE; a GANG behind with, rest).")
    static void namesThatAreNoSuchOnes() {
        String[] aheadOfHouses = {"lift ", "when off ", "when stands "};
        for (String ahead : aheadOfHouses) {
            for (String name : new String[] {"eve", "red", "gust", "an", "annn"}) {
                Check.yearsFault(ahead + name + ";", 3, ahead.length());
            }
        }
        String[] aheadOfGangs = {"lift ann with ", "rest "};
        for (String ahead : aheadOfGangs) {
            for (String name : new String[] {"eve", "ann", "gust", "re", "redd"}) {
                Check.yearsFault(ahead + name + ";", 3, ahead.length());
            }
        }
        RoofGale none = new RoofGale();
        Check.fails(none, "no houses", Check.years(none, "when off ann;end;"), 10);
        Check.due("no such one", none.fault(0), 3);
        Check.due("its place", none.fault(1), 9);
    }

    @Says("4 a NUMBER that can't be.")
    static void numbersThatCannotBe() {
        String[] ahead = {"hour ", "loop ", "when worth < ", "when worth > ", "when worth = "};
        int[] most = {240, 99, 9999, 9999, 9999};
        int[] least = {1, 1, 0, 0, 0};
        for (int i = 0; i < ahead.length; i++) {
            String behind = i == 0 ? ";" : ";end;";
            taken(ahead[i] + least[i] + behind, 1);
            taken(ahead[i] + "000" + least[i] + behind, 1);
            taken(ahead[i] + most[i] + behind, 1);
            if (least[i] > 0) {
                Check.yearsFault(ahead[i] + (least[i] - 1) + behind, 4, ahead[i].length());
            }
            Check.yearsFault(ahead[i] + (most[i] + 1) + behind, most[i] < 9999 ? 4 : 1, ahead[i].length());
            Check.yearsFault(ahead[i] + "-1" + behind, 1, ahead[i].length());
            Check.yearsFault(ahead[i] + "00001" + behind, 1, ahead[i].length());
            Check.yearsFault(ahead[i] + "4294967297" + behind, 1, ahead[i].length());
        }
    }

    private static String gales(int many) {
        return "gale;".repeat(many);
    }

    @Says("6 a 31st STEP (at its WORD; end is none).")
    static void thirtySteps() {
        for (int steps : new int[] {0, 1, 29, 30}) {
            taken(gales(steps), steps);
        }
        for (String word : new String[] {"hour", "gale", "dawn", "lift", "rest", "when", "loop", "stop"}) {
            Check.yearsFault(gales(30) + " " + word, 6, 151);
        }
        Check.yearsFault(gales(30) + "hour 0;", 6, 150);
        Check.yearsFault(gales(30) + "by", 2, 150);
        Check.yearsFault(gales(30) + "end;", 2, 150);
        Check.yearsFault(gales(30) + "?", 1, 150);
        taken("loop 1;" + gales(29) + "end;", 30);
        taken("loop 1;loop 1;loop 1;" + gales(27) + "end;end;end;", 30);
        taken("loop 1;end;".repeat(25) + "when off ann; end;", 26);
        taken("loop 1;end;".repeat(24) + gales(6), 30);
        Check.yearsFault("loop 1;" + gales(29) + "end;gale;", 6, 156);
        Check.yearsFault("loop 1;" + gales(30), 6, 152);
    }

    @Says("7 a when, loop within three others (at its WORD).")
    static void threeWithinOneAnother() {
        String[] opens = {"when off ann;", "loop 1;"};
        for (int kinds = 0; kinds < 8; kinds++) {
            String three = opens[kinds & 1] + opens[kinds >> 1 & 1] + opens[kinds >> 2];
            taken(three + "gale;end;end;end;", 4);
            for (String fourth : new String[] {"when", "loop", "loop 0;", "when on"}) {
                Check.yearsFault(three + " " + fourth, 7, three.length() + 1);
            }
            taken(three + "end;" + opens[kinds & 1] + "end;end;end;", 4);
            taken(three + "end;end;end;" + three + "end;end;end;", 6);
        }
        String full = "loop 1;loop 1;loop 1;" + gales(27);
        Check.yearsFault(full + "loop 1;", 6, full.length());
        Check.yearsFault(full + "when", 6, full.length());
    }

    // ---- steps

    @Says({"hour: 1 to 240 minutes (MISSED: the MINUTE would be above 9,999);",
        "Of live() latest with STATUS 0, whatever came since, what 0: MISSED, 1: minutes of HOURS, 2: roofs that came off whole, 3: HOUSES that fell,"})
    static void anHourAboveTheLastMinuteIsMissed() {
        for (int minutes : new int[] {1, 239, 240}) {
            RoofGale x = Check.at(LIGHT);
            Check.tells(x, "an hour", lived(x, "hour " + minutes + ";", 0), 1);
            Check.tells(x, "its minutes", x.lived(1), minutes);
            Check.tells(x, "the minute", x.many(4), minutes);
            Check.tells(x, "a roof came off", x.lived(2), 1);
        }
        RoofGale x = Check.at(LIGHT);
        Check.tells(x, "41 hours and 159 minutes", lived(x, "loop 41;hour 240;end;hour 159;", 0), 43);
        Check.tells(x, "none missed", x.lived(0), 0);
        Check.tells(x, "minutes", x.lived(1), 9999);
        Check.tells(x, "the last minute", x.many(4), 9999);
        Check.tells(x, "all above", lived(x, "hour 1;hour 240;dawn;hour 240;", 0), 4);
        Check.tells(x, "two missed", x.lived(0), 2);
        Check.tells(x, "240 minutes behind dawn", x.lived(1), 240);
        Check.tells(x, "the roof is off again", x.lived(2), 1);
        RoofGale y = Check.at(LIGHT);
        lived(y, "loop 41;hour 240;end;hour 160;hour 159;hour 1;", 0);
        Check.tells(y, "10,000 is missed, 9,999 is not, 10,000 is missed", y.lived(0), 2);
        Check.tells(y, "the last minute", y.many(4), 9999);
    }

    @Says({"lift: the GANG takes that HOUSE at hand, whatever it had (MISSED: its roof is off, it fell, another GANG has it); rest: it has nothing at hand."})
    static void aLiftThatCannotBeIsMissed() {
        RoofGale x = Check.at("house a at 0 worth 1 pieces 1 weight 1;house b at 3 worth 1 pieces 1 weight 1;house c at 3 worth 1 pieces 1 weight 20;"
                + "house d at 0 worth 1 pieces 1 weight 20;gang g of a hands 4;gang h of c hands 1;");
        Check.tells(x, "a, then c", lived(x, "lift d with h;hour 1;lift c with g;", 0), 3);
        Check.tells(x, "none missed", x.lived(0), 0);
        x.gale(12);
        Check.tells(x, "a is off, b fell", x.many(5) * 16 + x.many(6), 13 * 16 + 1);
        Check.tells(x, "its roof is off", lived(x, "lift a with g;", 0) * 10 + x.lived(0), 11);
        Check.tells(x, "it fell", lived(x, "lift b with g;", 0) * 10 + x.lived(0), 11);
        Check.tells(x, "another gang has it", lived(x, "lift d with g;", 0) * 10 + x.lived(0), 11);
        Check.tells(x, "it has what it had", x.gang(0, 4), 2);
        Check.tells(x, "whatever it had", lived(x, "rest h;lift d with g;", 0) * 10 + x.lived(0), 20);
        Check.tells(x, "d is at hand", x.gang(0, 4), 3);
        Check.tells(x, "what it has already", lived(x, "lift d with g;", 0) * 10 + x.lived(0), 10);
        Check.tells(x, "nothing at hand", lived(x, "rest g;rest g;", 0) * 10 + x.lived(0), 20);
        Check.fails(x, "nothing at hand", x.gang(0, 4), 8);
    }

    @Says("A gale without WINDS is MISSED.")
    static void aGaleWithoutWinds() {
        RoofGale x = Check.at(LIGHT);
        Check.tells(x, "two steps", lived(x, "gale;gale;", 0), 2);
        Check.tells(x, "two missed", x.lived(0), 2);
        Check.tells(x, "none fell", x.lived(3), 0);
        RoofGale y = Check.at(LIGHT + "wind w 0 of 1;");
        Check.tells(y, "two steps", lived(y, "gale;gale;", 0), 2);
        Check.tells(y, "a wind by which nothing falls is a wind", y.lived(0), 0);
    }

    @Says({"gale: a WIND by a draw by all chances; dawn;", "3: HOUSES that fell,"})
    static void aGaleTakesAllThatFalls() {
        RoofGale x = Check.at("house a at 0 worth 1 pieces 1 weight 1;house b at 0 worth 1 pieces 1 weight 2;wind w 12 of 99;");
        Check.tells(x, "two steps", lived(x, "gale;gale;", 77), 2);
        Check.tells(x, "a, once", x.lived(3), 1);
        RoofGale y = Check.at(LIGHT + "wind w 12 of 1;");
        Check.tells(y, "off, gale, on, gale", lived(y, "hour 1;gale;dawn;gale;", 0), 4);
        Check.tells(y, "one fell", y.lived(3), 1);
        Check.tells(y, "behind dawn", y.many(5), 0);
    }

    private static void when(String shore, String test, boolean holds) {
        RoofGale x = Check.at(shore);
        Check.tells(x, "when " + test, lived(x, "when " + test + ";dawn;end;stop;", 0), holds ? 3 : 2);
    }

    @Says({"when worth: the WORTH of all HOUSES that STAND (0 to 9,999).", "COMPARES: < or > or ="})
    static void worthFromNoneToAll() {
        when("", "worth = 0", true);
        when("", "worth < 0", false);
        when("", "worth > 0", false);
        when("", "worth < 1", true);
        StringBuilder most = new StringBuilder();
        for (char name = 'a'; name <= 'h'; name++) {
            most.append("house ").append(name).append(" at 0 worth 999 pieces 1 weight 1;");
        }
        when(most.toString(), "worth = 7992", true);
        when(most.toString(), "worth > 7991", true);
        when(most.toString(), "worth > 7992", false);
        when(most.toString(), "worth < 7992", false);
        when(most.toString(), "worth < 7993", true);
        when(most.toString(), "worth < 9999", true);
        when(most.toString(), "worth = 9999", false);
        when(most.toString(), "worth > 9999", false);
        RoofGale x = Check.at(most + "wind w 99 of 1;");
        Check.tells(x, "what fell is not worth anything", lived(x, "gale;when worth = 0;dawn;end;", 0), 3);
    }

    @Says("TEST: off NAME, or stands NAME,")
    static void offAndStands() {
        RoofGale x = Check.at("house a at 0 worth 1 pieces 2 weight 1;house b at 0 worth 1 pieces 1 weight 1;gang g of a hands 4;wind w 12 of 1;");
        Check.tells(x, "a piece is off", lived(x, "hour 1;when off a;stop;end;when stands a;stop;end;dawn;", 0), 4);
        Check.tells(x, "two are", lived(x, "hour 1;when off a;stop;end;dawn;", 0), 3);
        Check.tells(x, "what falls with its roof on is not off", lived(x, "gale;when off b;stop;end;when stands b;stop;end;", 0), 3);
    }

    @Says({"loop n (1 to 99): as often.", "At most 300 STEPS (when, loop count as one each time they are come to from ahead; end does not).",
        "LIVED: how many STEPS were come to, MISSED ones, too (5; 8: no YEARS)."})
    static void stepsThatCount() {
        RoofGale x = Check.at(LIGHT);
        Check.tells(x, "once", lived(x, "loop 1;dawn;end;", 0), 2);
        Check.tells(x, "99 times", lived(x, "loop 99;dawn;end;", 0), 100);
        Check.tells(x, "none within", lived(x, "loop 99;end;", 0), 1);
        Check.tells(x, "the inner one each time", lived(x, "loop 3;loop 2;dawn;end;end;", 0), 1 + 3 + 6);
        Check.tells(x, "none within the inner one", lived(x, "loop 99;loop 99;end;end;", 0), 100);
        Check.tells(x, "when, not its end", lived(x, "when off a;dawn;end;when stands a;dawn;end;", 0), 3);
        Check.tells(x, "three within one another", lived(x, "loop 2;loop 3;loop 4;end;end;end;", 0), 1 + 2 + 6);
        Check.tells(x, "missed ones, too", lived(x, "gale;gale;gale;", 0), 3);
        Check.tells(x, "stop", lived(x, "loop 9;stop;end;dawn;", 0), 2);
        Check.tells(x, "none", lived(x, "", 0), 0);
        Check.fails(x, "a seed", x.live(10000), 5);
    }

    @Says({"At most 300 STEPS", "4: 1 if a STEP was left to be done (by the 300 alone, not by stop), else 0 (5; 8: there was none)."})
    static void threeHundredStepsAndOneMore() {
        RoofGale x = Check.at(LIGHT);
        left(x, "loop 99;dawn;dawn;dawn;end;dawn;", 299, 0);
        left(x, "loop 99;dawn;dawn;dawn;end;dawn;dawn;", 300, 0);
        left(x, "loop 99;dawn;dawn;dawn;end;dawn;dawn;dawn;", 300, 1);
        left(x, "loop 99;dawn;dawn;dawn;end;dawn;stop;", 300, 0);
        left(x, "loop 99;dawn;dawn;dawn;end;dawn;stop;dawn;", 300, 0);
        left(x, "loop 99;dawn;dawn;dawn;end;dawn;dawn;stop;", 300, 1);
        left(x, "loop 99;dawn;dawn;dawn;end;dawn;when off a;dawn;end;", 300, 0);
        left(x, "loop 99;dawn;dawn;dawn;end;dawn;when stands a;dawn;end;", 300, 1);
        left(x, "loop 99;dawn;dawn;dawn;end;dawn;loop 99;end;", 300, 0);
        left(x, "loop 99;dawn;dawn;dawn;end;dawn;loop 99;dawn;end;", 300, 1);
        left(x, "dawn;dawn;loop 99;dawn;dawn;dawn;end;", 300, 0);
        left(x, "dawn;dawn;dawn;loop 99;dawn;dawn;dawn;end;", 300, 1);
        left(x, "loop 99;loop 99;loop 99;dawn;end;end;end;", 300, 1);
        left(x, "loop 99;loop 99;loop 99;end;end;end;", 300, 1);
    }

    private static void left(RoofGale x, String years, int steps, int left) {
        Check.tells(x, years, lived(x, years, 0), steps);
        Check.tells(x, "left of " + years, x.lived(4), left);
    }

    @Says("(by the 300 alone, not by stop)")
    static void whatIsLeftIsNotDone() {
        RoofGale x = Check.at("house a at 0 worth 1 pieces 1 weight 1;wind w 12 of 1;");
        Check.tells(x, "300", lived(x, "loop 99;dawn;dawn;dawn;end;dawn;dawn;gale;", 0), 300);
        Check.tells(x, "the gale did not come", x.many(5), 1);
        Check.tells(x, "299", lived(x, "loop 99;dawn;dawn;dawn;end;gale;", 0), 299);
        Check.tells(x, "the gale came", x.many(5), 0);
    }

    @Says("Of live() latest with STATUS 0, whatever came since,")
    static void livedOfTheLatest() {
        RoofGale x = Check.at(LIGHT + "wind w 12 of 1;");
        for (int what = 0; what < 5; what++) {
            Check.fails(x, "there was none", x.lived(what), 8);
        }
        for (int wrong : new int[] {-1, 5, Integer.MIN_VALUE, Integer.MAX_VALUE}) {
            Check.fails(x, "5 ahead of 8", x.lived(wrong), 5);
        }
        Check.fails(x, "no years", x.live(0), 8);
        Check.fails(x, "none with status 0", x.lived(0), 8);
        x.mark();
        lived(x, "hour 7;dawn;gale;hour 3;lift a with g;", 0);
        x.live(-1);
        x.mean(0, 3);
        Check.shore(x, "");
        x.live(0);
        x.back();
        int[] due = {1, 10, 1, 1, 0};
        for (int what = 0; what < 5; what++) {
            Check.tells(x, "lived " + what, x.lived(what), due[what]);
        }
        for (int wrong : new int[] {-1, 5, Integer.MIN_VALUE, Integer.MAX_VALUE}) {
            Check.fails(x, "lived " + wrong, x.lived(wrong), 5);
        }
    }

    // ---- draws

    @Says("LIVED by a seed (0 to 9,999): all is as it becomes by it, and stays so.")
    static void seedsFromZeroTo9999() {
        RoofGale x = Check.at(LIGHT);
        Check.years(x, "hour 2;");
        Check.tells(x, "the least", x.live(0), 1);
        Check.tells(x, "the greatest", x.live(9999), 1);
        Check.tells(x, "stays so", x.many(4), 4);
        Check.tells(x, "stays so", x.many(6), 1);
        for (int wrong : new int[] {-1, 10000, Integer.MIN_VALUE, Integer.MAX_VALUE}) {
            Check.fails(x, "seed " + wrong, x.live(wrong), 5);
        }
        Check.tells(x, "what was refused changes nothing", x.many(4), 4);
        RoofGale none = new RoofGale();
        Check.fails(none, "no years", none.live(0), 8);
        Check.fails(none, "5 ahead of 8", none.live(10000), 5);
        Check.tells(none, "no steps", none.years(0), 0);
        Check.tells(none, "no steps", none.live(0), 0);
    }

    private static final String SIX_HOUSES = "house a at 0 worth 0 pieces 1 weight 1;house b at 0 worth 0 pieces 1 weight 2;house c at 0 worth 0 pieces 1 weight 3;"
            + "house d at 0 worth 0 pieces 1 weight 4;house e at 0 worth 0 pieces 1 weight 5;house f at 0 worth 0 pieces 1 weight 6;";

    /** The wind of a number falls as many houses, and one more. */
    private static String winds(int... chances) {
        StringBuilder text = new StringBuilder(SIX_HOUSES);
        for (int w = 0; w < chances.length; w++) {
            text.append("wind ").append((char) ('p' + w)).append(' ').append(12 + w).append(" of ").append(chances[w]).append(';');
        }
        return text.toString();
    }

    @Says("Draws: s, at first the seed, becomes what is left of s times 2,909 and 10,597 by 65,536; the draw by n is the rest of s by 8, rounded down, by n.")
    static void theFirstDrawsByAllChances() {
        int[][] all = {{1}, {1, 1}, {99, 99, 99, 99, 99, 99}, {1, 2, 3, 4, 5, 6}, {99, 1, 1}, {1, 1, 99}};
        for (int[] chances : all) {
            int sum = 0;
            for (int c : chances) {
                sum += c;
            }
            for (int block = 0; block < 4; block++) {
                RoofGale x = Check.at(winds(chances));
                Check.years(x, "hour 1;dawn;gale;");
                for (int i = 0; i < 25; i++) {
                    int seed = i < 2 ? 9999 * i : (block * 2500 + i * 97) % 10000;
                    int rest = (int) ((seed * 2909L + 10597) % 65536 / 8 % sum);
                    int wind = 0;
                    while (rest >= chances[wind]) {
                        rest -= chances[wind];
                        wind++;
                    }
                    x.mark();
                    x.live(seed);
                    Check.tells(x, "the wind by seed " + seed + " of " + sum, x.lived(3), wind + 1);
                    x.back();
                }
            }
        }
    }

    /** A step more strong each gale, until all have fallen: each draw of two winds tells of its s. */
    @Says("s, at first the seed, becomes what is left of s times 2,909 and 10,597 by 65,536;")
    static void everyDrawGoesOnFromTheOneAhead() {
        for (int seed : new int[] {0, 1, 8, 4711, 9999}) {
            long s = seed;
            int strongest = 0;
            for (int draws = 1; draws <= 12; draws++) {
                s = (s * 2909 + 10597) % 65536;
                strongest = Math.max(strongest, (int) (s / 8 % 6));
                RoofGale x = Check.at(winds(1, 1, 1, 1, 1, 1));
                Check.tells(x, "gales", lived(x, "gale;".repeat(draws), seed), draws);
                Check.tells(x, "the strongest of " + draws + " by seed " + seed, x.lived(3), strongest + 1);
            }
        }
    }

    @Says("The FRACTION is the mean of the WORTH that STANDS behind the YEARS, by so many seeds (1 to 20) from one on (all stays as it is) "
            + "(5: the last above 9,999, too; 8).")
    static void meanOfOneToTwentySeeds() {
        RoofGale x = Check.at("house a at 0 worth 999 pieces 1 weight 1;wind p 11 of 1;wind q 12 of 1;");
        Check.no(x, "no years", x.mean(0, 1), 8);
        Check.no(x, "5 ahead of 8", x.mean(0, 0), 5);
        Check.no(x, "5 ahead of 8", x.mean(9999, 2), 5);
        Check.years(x, "hour 9;gale;");
        for (int[] from : new int[][] {{0, 1}, {0, 20}, {9999, 1}, {9998, 2}, {9980, 20}, {9979, 20}}) {
            int stands = 0;
            for (int seed = from[0]; seed < from[0] + from[1]; seed++) {
                stands += (seed * 2909L + 10597) % 65536 / 8 % 2 == 0 ? 1 : 0;
            }
            Check.yes(x, "mean", x.mean(from[0], from[1]));
            Check.due("mean of " + from[1] + " from " + from[0], x.top() * from[1], 999L * stands * x.bottom());
        }
        for (int[] wrong : new int[][] {{0, 0}, {0, 21}, {0, -1}, {-1, 1}, {-1, 20}, {10000, 1}, {9999, 2}, {9981, 20}, {9980, 21},
            {0, Integer.MIN_VALUE}, {0, Integer.MAX_VALUE}, {Integer.MIN_VALUE, 1}, {Integer.MAX_VALUE, 1}, {Integer.MAX_VALUE, 20},
            {Integer.MIN_VALUE, Integer.MIN_VALUE}, {Integer.MAX_VALUE, Integer.MAX_VALUE}}) {
            Check.no(x, "mean of " + wrong[1] + " from " + wrong[0], x.mean(wrong[0], wrong[1]), 5);
        }
        Check.tells(x, "all stays as it is", x.many(4), 0);
        Check.tells(x, "all stays as it is", x.many(5), 1);
        Check.fails(x, "nothing was lived", x.lived(0), 8);
        RoofGale none = new RoofGale();
        Check.no(none, "no years", none.mean(0, 1), 8);
        none.years(0);
        Check.fraction(none, "years without steps, a shore without houses", none.mean(0, 20), 0, 1);
    }

    // ---- marks, fractions, status

    @Says({"MARKS, at most 3: the SHORE with all that became of it, the YEARS are kept as they are; all is taken back to the latest MARK, which is gone then.",
        "A MARK more: how many there are (7).", "All is taken back to the latest MARK: how many there are left (8)."})
    static void marksFromNoneToThree() {
        RoofGale x = Check.at(LIGHT);
        Check.fails(x, "no mark", x.back(), 8);
        for (int marks = 1; marks <= 3; marks++) {
            Check.tells(x, "a mark more", x.mark(), marks);
            x.hour(10);
        }
        Check.fails(x, "a fourth", x.mark(), 7);
        Check.fails(x, "a fourth", x.mark(), 7);
        Check.tells(x, "what is refused changes nothing", x.many(4), 30);
        for (int marks = 2; marks >= 0; marks--) {
            Check.tells(x, "back", x.back(), marks);
            Check.tells(x, "the minute", x.many(4), marks * 10);
        }
        Check.tells(x, "the roof is on", x.many(6), 0);
        Check.fails(x, "none is left", x.back(), 8);
        Check.tells(x, "what is refused changes nothing", x.many(4), 0);
        Check.tells(x, "from none again", x.mark(), 1);
        x.hour(5);
        Check.tells(x, "two", x.mark(), 2);
        Check.tells(x, "the latest", x.back(), 1);
        Check.tells(x, "the minute", x.many(4), 5);
        x.hour(1);
        Check.tells(x, "the one that is left", x.back(), 0);
        Check.tells(x, "the minute", x.many(4), 0);
    }

    @Says("the SHORE with all that became of it, the YEARS are kept as they are;")
    static void aMarkKeepsTheEmptyAndTheFull() {
        RoofGale x = new RoofGale();
        x.mark();
        StringBuilder full = new StringBuilder();
        for (int h = 0; h < 8; h++) {
            full.append("house ").append((char) ('a' + h)).append(" at 0 worth 9 pieces 9 weight ").append(1 + h).append(';');
        }
        for (int g = 0; g < 4; g++) {
            full.append("gang ").append((char) ('p' + g)).append(" of a hands 40;");
        }
        full.append("helped a by h 9;wind t 9 of 1;wind u 9 of 2;wind v 9 of 3;wind w 9 of 4;wind x 9 of 5;wind y 9 of 6;law near;");
        Check.tells(x, "full", Check.shore(x, full.toString()), 8);
        Check.tells(x, "thirty steps", Check.years(x, gales(30)), 30);
        x.hour(7);
        Check.tells(x, "a falls", x.gale(12), 1);
        int[] many = new int[10];
        for (int what = 0; what < 10; what++) {
            many[what] = x.many(what);
        }
        int left = x.gang(3, 5);
        int hand = x.gang(3, 4);
        Check.tells(x, "two marks", x.mark(), 2);
        x.hour(100);
        x.dawn();
        x.help(0, 7, 9);
        x.gale(99);
        Check.years(x, "");
        Check.tells(x, "an empty one", Check.shore(x, ""), 0);
        Check.tells(x, "back", x.back(), 1);
        for (int what = 0; what < 10; what++) {
            Check.tells(x, "many " + what, x.many(what), many[what]);
        }
        Check.tells(x, "minutes left", x.gang(3, 5), left);
        Check.tells(x, "at hand", x.gang(3, 4), hand);
        Check.tells(x, "debts", x.helped(0, 7), 9);
        Check.tells(x, "the years", x.live(3), 30);
        Check.tells(x, "back", x.back(), 0);
        Check.tells(x, "empty", x.many(0) + x.many(1) + x.many(2), 0);
        Check.fails(x, "no years", x.live(0), 8);
    }

    /** Between the mark and the way back all is another thing, so that nothing can have stayed by chance. */
    @Says({"the SHORE with all that became of it, the YEARS are kept as they are;", "all is taken back to the latest MARK"})
    static void everyNumberIsTakenBack() {
        RoofGale x = Check.at();
        Check.years(x, "dawn;lift dan with blu;hour 1;when worth > 699;rest blu;end;loop 2;dawn;hour 1;end;");
        x.hour(12);
        x.help(3, 1, 7);
        x.gale(13);
        RoofGale y = Check.at();
        Check.years(y, "dawn;lift dan with blu;hour 1;when worth > 699;rest blu;end;loop 2;dawn;hour 1;end;");
        y.hour(12);
        y.help(3, 1, 7);
        y.gale(13);
        x.mark();
        Check.tells(x, "another shore", Check.shore(x, "wind ann 1 of 1;wind bob 2 of 2;wind cid 3 of 3;house red at 60 worth 1 pieces 9 weight 11 long 11;"
                + "house blu at 50 worth 2 pieces 8 weight 12 pegs 7;house storm at 40 worth 3 pieces 7 weight 13;house gust at 30 worth 4 pieces 6 weight 14 long 9;"
                + "gang eve of gust hands 39 pace 9;gang fay of gust hands 38 pace 8;helped red by blu 5;helped gust by red 6;law near;"), 4);
        Check.tells(x, "other years", Check.years(x, "loop 9;when stands blu;lift red with fay;end;when worth < 1;end;hour 9;gale;end;"), 6);
        x.hour(33);
        x.live(5);
        Check.tells(x, "back", x.back(), 0);
        for (int what = 0; what < 10; what++) {
            Check.tells(x, "many " + what, x.many(what), y.many(what));
        }
        for (int h = 0; h < 4; h++) {
            for (int what = 0; what < 9; what++) {
                Check.due("house " + h + ", " + what, x.house(h, what), y.house(h, what));
            }
            for (int by = 0; by < 4; by++) {
                Check.due("helped " + h + ", " + by, x.helped(h, by), y.helped(h, by));
            }
        }
        for (int g = 0; g < 2; g++) {
            for (int what = 0; what < 6; what++) {
                Check.due("gang " + g + ", " + what, x.gang(g, what), y.gang(g, what));
            }
        }
        for (int w = 0; w < 3; w++) {
            Check.tells(x, "strength", x.wind(w, 0), y.wind(w, 0));
            Check.tells(x, "chances", x.wind(w, 1), y.wind(w, 1));
        }
        Check.due("the years", x.live(5), y.live(5));
        for (int what = 0; what < 5; what++) {
            Check.tells(x, "lived " + what, x.lived(what), y.lived(what));
            Check.due("gang 1, " + what, x.gang(1, what), y.gang(1, what));
        }
        Check.tells(x, "the names", Check.years(x, "lift ann with red;lift dan with blu;"), 2);
        Check.fails(x, "no others", Check.years(x, "rest eve;"), 10);
    }

    @Says({"FRACTIONS are told by top() and bottom() without a common divisor, the bottom above 0; 0 is 0 by 1.", "The top of the FRACTION told latest (below 0, too).",
        "Its bottom, above 0."})
    static void fractionsBelowAboveAndNone() {
        RoofGale x = Check.at("house a at 0 worth 6 pieces 1 weight 1;gang g of a hands 4;wind p 12 of 6;wind q 11 of 9;");
        Check.due("0 at first", x.top(), 0);
        Check.due("0 by 1 at first", x.bottom(), 1);
        Check.fraction(x, "6 by 15", x.risk(0), 2, 5);
        Check.fraction(x, "36 by 15", x.loss(), 12, 5);
        Check.fraction(x, "36 less 30 by 15", x.saves(1, 2), 2, 5);
        Check.fraction(x, "36 less 45 by 15", x.saves(1, 3), -3, 5);
        Check.no(x, "refused", x.saves(1, 100), 5);
        Check.due("told latest", x.top(), -3);
        Check.due("told latest", x.bottom(), 5);
        x.hour(1);
        Check.fraction(x, "0 by 15", x.loss(), 0, 1);
        Check.fraction(x, "0", x.saves(240, 99), 0, 1);
        x.dawn();
        Check.fraction(x, "36 less 1,485 by 15", x.saves(240, 99), -483, 5);
        for (int chances = 1; chances <= 99; chances++) {
            RoofGale y = Check.at("house a at 0 worth 12 pieces 1 weight 1;wind p 12 of 36;wind q 11 of " + chances + ";");
            Check.yes(y, "loss", y.loss());
            Check.due("12 times 36 by 36 and " + chances, y.top() * (36 + chances), 432 * y.bottom());
            for (int divisor = 2; divisor <= 135; divisor++) {
                Check.due("no common divisor " + divisor, y.top() % divisor == 0 && y.bottom() % divisor == 0, false);
            }
        }
    }

    @Says({"The STATUS of the latest call that has one.", "status(), fault(), feed(), top(), bottom() have none."})
    static void fiveCallsHaveNoStatus() {
        RoofGale x = new RoofGale();
        x.many(10);
        Check.due("status", x.status(), 5);
        Check.due("status again", x.status(), 5);
        x.fault(0);
        x.fault(-1);
        x.feed(1, 2, 3, 4, 5);
        x.top();
        x.bottom();
        Check.due("status of many()", x.status(), 5);
        for (int i = 0; i < 45; i++) {
            x.feed(0, 0, 0, 0, 0);
        }
        Check.due("a feed that has no room", x.feed(0, 0, 0, 0, 0), -1);
        Check.due("status of many()", x.status(), 5);
        x.many(0);
        Check.due("status of the latest", x.status(), 0);
        x.fault(9);
        Check.due("NONE without a status", x.status(), 0);
    }
}
