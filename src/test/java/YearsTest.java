/** Promises 11 and 50 to 54: the years, draws and marks. */
public final class YearsTest {
    public static void main(String[] args) {
        taken();
        faults();
        tooMany();
        live();
        missed();
        tests();
        loops();
        leftOver();
        draws();
        lived();
        mean();
        marks();
        Check.end("YearsTest");
    }

    private static void taken() {
        RoofGale x = Check.at();
        Check.tells(x, "no steps", x.years(0), 0);
        Check.tells(x, "years without steps", x.live(0), 0);
        Check.tells(x, "blanks", Check.years(x, "\n "), 0);
        Check.tells(x, "all steps", Check.years(x, "hour 240;gale;dawn;lift ann with red;rest blu;when off ann;end;"
                + "when stands bob;stop;end;when worth<9999;end;when worth > 0;end;when worth=0000;loop 99;loop 1;end;end;end;"), 13);
        x.feed(0, 0, 0, 0, 0);
        Check.fails(x, "more than the tape", x.years(21), 5);
        Check.fails(x, "below 0", x.years(-1), 5);
    }

    private static void faults() {
        Check.yearsFault("Gale;", 1, 0);
        Check.yearsFault("hour 00001;", 1, 5);
        Check.yearsFault("when worth ! 1;", 1, 11);
        Check.yearsFault("go;", 2, 0);
        Check.yearsFault("house a;", 2, 0);
        Check.yearsFault("when;", 2, 4);
        Check.yearsFault("with;", 2, 0);
        Check.yearsFault("stop", 2, 4);
        Check.yearsFault("stop ", 2, 5);
        Check.yearsFault("end;", 2, 0);
        Check.yearsFault("loop 1;end;end;", 2, 11);
        Check.yearsFault("loop 1;end", 2, 10);
        Check.yearsFault("loop 1;stop;", 2, 12);
        Check.yearsFault("loop 1;when off ann;end; ", 2, 25);
        Check.yearsFault("hour;", 2, 4);
        Check.yearsFault("hour ann;", 2, 5);
        Check.yearsFault("gale 30;", 2, 5);
        Check.yearsFault("lift 1 with red;", 2, 5);
        Check.yearsFault("lift ann by red;", 2, 9);
        Check.yearsFault("lift ann with hour;", 2, 14);
        Check.yearsFault("lift abcdefghi with red;", 2, 5);
        Check.yearsFault("rest;", 2, 4);
        Check.yearsFault("when on ann;", 2, 5);
        Check.yearsFault("when worth ; 1;", 2, 11);
        Check.yearsFault("when worth 1;", 2, 11);
        Check.yearsFault("when worth < ann;", 2, 13);
        Check.yearsFault("when off = ann;", 2, 9);
        Check.yearsFault("lift red with red;", 3, 5);
        Check.yearsFault("lift ann with bob;", 3, 14);
        Check.yearsFault("lift ann with gust;", 3, 14);
        Check.yearsFault("rest ann;", 3, 5);
        Check.yearsFault("when off red;", 3, 9);
        Check.yearsFault("when stands eve;", 3, 12);
        Check.yearsFault("hour 0;", 4, 5);
        Check.yearsFault("hour 241;", 4, 5);
        Check.yearsFault("loop 0;", 4, 5);
        Check.yearsFault("loop 100;", 4, 5);
        Check.yearsFault("hour 0; !", 4, 5);
    }

    private static void tooMany() {
        StringBuilder thirty = new StringBuilder("loop 1;");
        for (int i = 0; i < 29; i++) {
            thirty.append("gale;");
        }
        RoofGale x = Check.at();
        Check.tells(x, "30 steps", Check.years(x, thirty + "end;"), 30);
        Check.yearsFault(thirty + "gale;end;", 6, thirty.length());
        Check.yearsFault(thirty + "end; hour 0;", 6, thirty.length() + 5);
        Check.yearsFault(thirty + "end; go;", 2, thirty.length() + 5);
        StringBuilder empty = new StringBuilder();
        for (int i = 0; i < 24; i++) {
            empty.append("loop 1;end;");
        }
        Check.tells(x, "ends are no steps", Check.years(x, empty + "stop;stop;stop;stop;stop;stop;"), 30);
        Check.tells(x, "all of them", x.live(0), 25);
        String three = "loop 1;when off ann;loop 1;";
        Check.tells(x, "within two others", Check.years(x, three + "end;end;end;"), 3);
        Check.yearsFault(three + "loop 0;", 7, three.length());
        Check.yearsFault(three + "when;", 7, three.length());
        Check.tells(x, "one behind another", Check.years(x, three + "end;loop 1;end;end;end;loop 1;end;"), 5);
        StringBuilder both = new StringBuilder(three);
        for (int i = 0; i < 27; i++) {
            both.append("gale;");
        }
        Check.yearsFault(both + "loop 1;", 6, both.length());
    }

    private static int lived(RoofGale x, String years, int seed) {
        Check.years(x, years);
        Check.due("years are taken: " + years, x.status(), 0);
        return x.live(seed);
    }

    private static void live() {
        RoofGale x = Check.at();
        Check.fails(x, "no years", x.live(0), 8);
        Check.fails(x, "5 ahead of 8", x.live(-1), 5);
        Check.tells(x, "steps", lived(x, "hour 9;hour 1;", 0), 2);
        Check.fails(x, "seed", x.live(-1), 5);
        Check.fails(x, "seed", x.live(10000), 5);
        Check.tells(x, "stays so", x.many(4), 10);
        Check.tells(x, "stays so", x.many(6), 2);
        Check.tells(x, "again", x.live(9999), 2);
        Check.tells(x, "from there on", x.many(4), 20);
        Check.tells(x, "dawn", lived(x, "dawn;", 0), 1);
        Check.tells(x, "minute", x.many(4), 0);
        Check.tells(x, "lift and rest", lived(x, "lift cid with red;rest red;lift dan with red;", 0), 3);
        Check.tells(x, "dan", x.gang(0, 4), 3);
        Check.tells(x, "stop", lived(x, "rest red;stop;dawn;", 0), 2);
        Check.tells(x, "not missed", x.lived(0), 0);
        Check.tells(x, "resting again is not missed", lived(x, "rest red;", 0), 1);
        Check.tells(x, "not missed", x.lived(0), 0);
    }

    private static void missed() {
        RoofGale x = Check.at("house a at 0 worth 1 pieces 1 weight 1;house b at 0 worth 1 pieces 1 weight 9;house c at 0 worth 1 pieces 1 weight 20 pegs 9;"
                + "gang g of a hands 4;gang h of a hands 1;");
        Check.tells(x, "gale without winds", lived(x, "gale;", 0), 1);
        Check.tells(x, "missed", x.lived(0), 1);
        x.gale(20);
        Check.tells(x, "b fell, h has c", lived(x, "lift b with g;lift c with h;lift c with g;lift c with h;", 0), 4);
        Check.tells(x, "missed, but not what it has already", x.lived(0), 2);
        RoofGale y = Check.at("house a at 0 worth 1 pieces 1 weight 1;gang g of a hands 4;");
        lived(y, "hour 1;lift a with g;", 0);
        Check.tells(y, "its roof is off", y.lived(0), 1);
        RoofGale z = new RoofGale();
        Check.tells(z, "hours", lived(z, "loop 50;hour 200;end;hour 199;hour 1;", 0), 53);
        Check.tells(z, "missed above 9,999", z.lived(0), 2);
        Check.tells(z, "minutes without those", z.lived(1), 49 * 200 + 199);
        Check.tells(z, "the last minute", z.many(4), 9999);
        RoofGale w = Check.at();
        lived(w, "lift ann with blu;lift ann with red;", 0);
        Check.tells(w, "another has it", w.lived(0), 1);
        Check.tells(w, "it stays with it", w.gang(1, 4), 0);
    }

    private static void tests() {
        testIs("off ann", false, false);
        testIs("stands ann", true, false);
        testIs("off bob", false, true);
        testIs("stands bob", true, true);
        testIs("worth < 750", false, true);
        testIs("worth = 750", true, false);
        testIs("worth > 750", false, false);
        testIs("worth > 749", true, false);
        testIs("worth < 751", true, true);
        testIs("worth = 600", false, true);
    }

    /** A test on the shore at first, and when bob's roof is off and ann and cid fell. */
    private static void testIs(String test, boolean first, boolean then) {
        RoofGale x = Check.at();
        Check.tells(x, "first " + test, lived(x, "when " + test + ";dawn;end;", 0), first ? 2 : 1);
        x.hour(9);
        x.gale(30);
        Check.tells(x, "then " + test, x.live(0), then ? 2 : 1);
    }

    private static void loops() {
        RoofGale x = Check.at();
        Check.tells(x, "one each time", lived(x, "loop 3;dawn;dawn;end;", 0), 7);
        Check.tells(x, "within", lived(x, "loop 3;loop 2;dawn;end;end;stop;", 0), 1 + 3 + 6 + 1);
        Check.tells(x, "empty", lived(x, "loop 99;end;stop;", 0), 2);
        Check.tells(x, "empty within", lived(x, "loop 99;loop 99;end;end;", 0), 100);
        Check.tells(x, "stop ends all", lived(x, "loop 9;loop 9;hour 9;stop;end;end;", 0), 4);
        Check.tells(x, "when within", lived(x, "loop 3;when worth<1;dawn;end;dawn;end;", 0), 7);
        Check.tells(x, "three deep", lived(x, "loop 2;loop 3;loop 4;dawn;end;end;end;", 0), 1 + 2 + 6 + 24);
        Check.tells(x, "a loop in a when", lived(x, "loop 2;when worth>0;loop 2;dawn;end;end;end;", 0), 1 + 2 + 2 + 4);
    }

    private static void leftOver() {
        RoofGale x = Check.at();
        Check.tells(x, "299", lived(x, "loop 99;dawn;dawn;dawn;end;stop;", 0), 299);
        Check.tells(x, "not by stop", x.lived(4), 0);
        Check.tells(x, "300 just", lived(x, "loop 99;dawn;dawn;dawn;end;dawn;dawn;", 0), 300);
        Check.tells(x, "none left", x.lived(4), 0);
        Check.tells(x, "300 and one more", lived(x, "loop 99;dawn;dawn;dawn;end;dawn;dawn;stop;", 0), 300);
        Check.tells(x, "stop was left", x.lived(4), 1);
        Check.tells(x, "the last is a loop's last", lived(x, "dawn;loop 99;dawn;dawn;dawn;end;dawn;", 0), 300);
        Check.tells(x, "none left", x.lived(4), 0);
        Check.tells(x, "a loop goes on", lived(x, "loop 99;loop 99;dawn;end;end;", 0), 300);
        Check.tells(x, "left", x.lived(4), 1);
        Check.tells(x, "an empty loop is the 300th", lived(x, "loop 99;dawn;dawn;dawn;end;dawn;loop 99;end;", 0), 300);
        Check.tells(x, "none left in it", x.lived(4), 0);
        Check.tells(x, "a loop is left", lived(x, "loop 99;dawn;dawn;dawn;end;dawn;dawn;loop 1;end;", 0), 300);
        Check.tells(x, "left", x.lived(4), 1);
        Check.tells(x, "stop is the 300th", lived(x, "loop 99;dawn;dawn;dawn;end;dawn;stop;dawn;", 0), 300);
        Check.tells(x, "not by stop", x.lived(4), 0);
    }

    /** Each draw is told by which of two winds came. */
    private static void draws() {
        RoofGale x = Check.at("house a at 0 worth 1 pieces 1 weight 1;house b at 0 worth 2 pieces 1 weight 2;house c at 0 worth 4 pieces 1 weight 3;"
                + "wind v 12 of 3;wind w 13 of 4;wind u 14 of 6;");
        Check.years(x, "gale;gale;");
        for (int seed = 0; seed < 60; seed++) {
            int s = (seed * 2909 + 10597) % 65536;
            int first = s / 8 % 13;
            s = (s * 2909 + 10597) % 65536;
            int both = Math.max(first, s / 8 % 13);
            x.mark();
            Check.tells(x, "steps", x.live(seed), 2);
            Check.tells(x, "houses by seed " + seed, x.lived(3), both < 3 ? 1 : both < 7 ? 2 : 3);
            x.back();
            Check.years(x, "gale;gale;");
        }
    }

    private static void lived() {
        RoofGale x = Check.at();
        Check.fails(x, "5 ahead of 8", x.lived(5), 5);
        Check.fails(x, "what", x.lived(-1), 5);
        Check.fails(x, "there was none", x.lived(0), 8);
        x.live(0);
        Check.fails(x, "none with status 0", x.lived(0), 8);
        lived(x, "hour 9;gale;hour 240;lift cid with red;", 0);
        int[] due = {1, 249, 2, 2, 0};
        for (int what = 0; what < due.length; what++) {
            Check.tells(x, "lived " + what, x.lived(what), due[what]);
        }
        x.live(10000);
        x.mean(0, 20);
        x.mark();
        x.back();
        Check.shore(x, "");
        x.live(0);
        for (int what = 0; what < due.length; what++) {
            Check.tells(x, "whatever came since " + what, x.lived(what), due[what]);
        }
    }

    private static void mean() {
        RoofGale x = Check.at("house a at 0 worth 1 pieces 1 weight 1;house b at 0 worth 2 pieces 1 weight 2;wind v 12 of 1;wind w 13 of 1;");
        Check.no(x, "5 ahead of 8", x.mean(-1, 1), 5);
        Check.no(x, "no years", x.mean(0, 1), 8);
        Check.years(x, "hour 5;gale;");
        Check.no(x, "mean", x.mean(10000, 1), 5);
        Check.no(x, "mean", x.mean(0, 0), 5);
        Check.no(x, "mean", x.mean(0, 21), 5);
        Check.no(x, "mean", x.mean(9999, 2), 5);
        Check.no(x, "mean", x.mean(9980, 21), 5);
        Check.no(x, "mean", x.mean(Integer.MAX_VALUE, 20), 5);
        for (int seed : new int[] {0, 5000, 9980}) {
            for (int many = 1; many <= 20; many++) {
                int worth = 0;
                for (int s = seed; s < seed + many; s++) {
                    worth += (s * 2909 + 10597) % 65536 / 8 % 2 == 0 ? 2 : 0;
                }
                boolean whole = worth % many == 0;
                Check.yes(x, "mean of " + many + " from " + seed, x.mean(seed, many));
                Check.due("the mean of " + many, x.top() * many, worth * x.bottom());
                Check.due("without a common divisor", whole ? x.bottom() : 1, 1);
            }
        }
        Check.tells(x, "all stays", x.many(4), 0);
        Check.tells(x, "all stays", x.many(5), 3);
        Check.fails(x, "nothing was lived", x.lived(0), 8);
    }

    private static void marks() {
        RoofGale x = Check.at();
        Check.fails(x, "none", x.back(), 8);
        Check.years(x, "stop;");
        Check.tells(x, "one", x.mark(), 1);
        x.hour(15);
        x.help(3, 0, 5);
        x.tray(0, 0, 1);
        x.best(0, 15);
        Check.tells(x, "two", x.mark(), 2);
        Check.shore(x, "house eve at 1 worth 1 pieces 1 weight 1;law near;");
        Check.tells(x, "three", x.mark(), 3);
        Check.fails(x, "no fourth", x.mark(), 7);
        x.gale(99);
        Check.years(x, "when off eve;end;");
        Check.tells(x, "back", x.back(), 2);
        Check.tells(x, "eve stands", x.many(5), 1);
        Check.fails(x, "no years", x.live(0), 8);
        Check.tells(x, "back", x.back(), 1);
        Check.tells(x, "the shore ahead", x.many(0), 4);
        Check.tells(x, "its law", x.many(3), 0);
        Check.tells(x, "its minute", x.many(4), 15);
        Check.tells(x, "what is off", x.many(6), 2);
        Check.tells(x, "what is at hand", x.gang(1, 5), 22);
        Check.tells(x, "where it is", x.gang(1, 3), 6);
        Check.tells(x, "debts", x.helped(3, 0), 5);
        Check.tells(x, "its years", x.live(0), 1);
        Check.tells(x, "its names", Check.years(x, "lift ann with red;rest blu;"), 2);
        Check.tells(x, "back", x.back(), 0);
        Check.tells(x, "minute 0", x.many(4), 0);
        Check.tells(x, "all on", x.many(6), 0);
        Check.tells(x, "debts", x.helped(3, 0), 0);
        Check.tells(x, "years", x.live(0), 1);
        Check.tells(x, "trays are not taken back", x.read(0, 0), 0);
        Check.tells(x, "nor what was found", x.bestSet(), 1);
        Check.fails(x, "none", x.back(), 8);
        Check.tells(x, "a mark again", x.mark(), 1);
    }
}
