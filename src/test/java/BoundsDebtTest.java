import java.io.IOException;

/** The bounds of prophets, debts, the ground, signs, slates and neighbours. */
public final class BoundsDebtTest {
    private static final int[] WIDEST = {Integer.MIN_VALUE, Integer.MIN_VALUE + 1, -1, Integer.MAX_VALUE - 1, Integer.MAX_VALUE};

    public static void main(String[] args) throws IOException, ReflectiveOperationException {
        Sentences.run(BoundsDebtTest.class);
    }

    private static String houses(int many) {
        StringBuilder text = new StringBuilder();
        for (int h = 0; h < many; h++) {
            text.append("house ").append((char) ('a' + h)).append(" at 0 worth 1 pieces 1 weight 1;");
        }
        return text.toString();
    }

    /** Tray 0 is told, tray 1 came: so many numbers in each, all alike. */
    private static RoofGale prophet(int many, long told, long came) {
        RoofGale x = new RoofGale();
        x.tray(0, 3, many);
        x.tray(1, 3, many);
        for (int place = 0; place < many; place++) {
            x.write(0, place, told);
            x.write(1, place, came);
        }
        return x;
    }

    // ---- prophets

    @Says({"SCORE of a prophet: a TRAY of the hundredths (0 to 100) that he told for each of n gales (1 to 60), another of 1 where it came, else 0: "
            + "all squares of what he was off by, together (of 0 or 100).",
        "SCORE by the first n numbers of two TRAYS (1; 3; 4; 5: n, 0 to 100, 0 or 1; asked as 1, 3, 4, 5)."})
    static void scoreOfOneToSixtyGales() {
        int[][] due = {{0, 0, 0}, {0, 1, 10000}, {100, 0, 10000}, {100, 1, 0}, {1, 0, 1}, {99, 1, 1}, {50, 0, 2500}, {50, 1, 2500}};
        for (int[] d : due) {
            RoofGale x = prophet(60, d[0], d[1]);
            for (int n : new int[] {1, 2, 59, 60}) {
                Check.tells(x, n + " times " + d[0] + ", " + d[1], x.score(0, 1, n), n * d[2]);
            }
            Check.fails(x, "none", x.score(0, 1, 0), 5);
            Check.fails(x, "-1", x.score(0, 1, -1), 5);
            Check.fails(x, "the least", x.score(0, 1, Integer.MIN_VALUE), 5);
            Check.fails(x, "61", x.score(0, 1, 61), 4);
            Check.fails(x, "the most", x.score(0, 1, Integer.MAX_VALUE), 4);
        }
    }

    @Says("(1; 3; 4; 5: n, 0 to 100, 0 or 1; asked as 1, 3, 4, 5)")
    static void aProphetTellsZeroToAHundred() {
        for (long told : new long[] {-1, 101, Long.MIN_VALUE, Long.MAX_VALUE, 1L << 32, (1L << 32) + 50, -(1L << 32)}) {
            wrongNumber(told, 1);
        }
        for (long came : new long[] {-1, 2, 100, Long.MIN_VALUE, Long.MAX_VALUE, 1L << 32, (1L << 32) + 1}) {
            wrongNumber(50, came);
        }
    }

    /** It is refused as the first, the last of n, but not asked behind n. */
    private static void wrongNumber(long told, long came) {
        for (int place = 0; place < 3; place++) {
            RoofGale x = prophet(3, 50, 1);
            x.write(0, place, told);
            x.write(1, place, came);
            for (int n = 1; n <= 3; n++) {
                if (place < n) {
                    Check.fails(x, "score of " + told + ", " + came, x.score(0, 1, n), 5);
                    Check.fails(x, "words of " + told + ", " + came, x.words(0, 1, n), 5);
                } else {
                    Check.tells(x, "score ahead of " + told + ", " + came, x.score(0, 1, n), n * 2500);
                    Check.tells(x, "words ahead of " + told + ", " + came, x.words(0, 1, n), -n * 2500);
                }
            }
        }
    }

    @Says("asked as 1, 3, 4, 5")
    static void bothTraysAreAsked() {
        RoofGale x = prophet(3, 50, 1);
        x.tray(2, 0, 2);
        for (int wrong : new int[] {Integer.MIN_VALUE, -1, 4, Integer.MAX_VALUE}) {
            refused(x, wrong, 1, 1, 1);
            refused(x, 0, wrong, 1, 1);
            refused(x, wrong, 3, 61, 1);
            refused(x, 3, wrong, 0, 1);
        }
        refused(x, 3, 1, 1, 3);
        refused(x, 0, 3, 1, 3);
        refused(x, 3, 1, 61, 3);
        refused(x, 0, 3, 0, 3);
        refused(x, 0, 2, 3, 4);
        refused(x, 2, 1, 3, 4);
        x.write(0, 0, 101);
        refused(x, 0, 2, 3, 4);
        refused(x, 0, 1, 1, 5);
        RoofGale empty = prophet(0, 0, 0);
        refused(empty, 0, 1, 1, 4);
        refused(empty, 0, 1, 0, 5);
    }

    private static void refused(RoofGale x, int told, int came, int n, int status) {
        Check.fails(x, "score of " + told + ", " + came + ", " + n, x.score(told, came, n), status);
        Check.fails(x, "words of " + told + ", " + came + ", " + n, x.words(told, came, n), status);
    }

    @Says({"WORDS' WORTH: the SCORE of one who always tells the mean of what came (in hundredths, rounded down), less his.",
        "WORDS' WORTH (likewise); STATUS tells NONE from -1."})
    static void theMeanIsRoundedDown() {
        RoofGale x = prophet(3, 0, 0);
        x.write(1, 2, 1);
        Check.tells(x, "a third is 33: 2 times 33, once 67", x.words(0, 1, 3), 2 * 1089 + 4489 - 10000);
        x.write(1, 1, 1);
        Check.tells(x, "two thirds are 66: once 66, 2 times 34", x.words(0, 1, 3), 4356 + 2 * 1156 - 20000);
        RoofGale most = prophet(60, 0, 1);
        Check.tells(most, "the least", most.words(0, 1, 60), -600000);
        RoofGale half = prophet(60, 0, 0);
        for (int place = 0; place < 60; place += 2) {
            half.write(0, place, 100);
            half.write(1, place, 1);
        }
        Check.tells(half, "the greatest", half.words(0, 1, 60), 150000);
        Check.tells(half, "59 of 60 numbers: 30 of 59 are 50", half.words(0, 1, 59), 59 * 2500);
        RoofGale sixty = prophet(60, 0, 0);
        sixty.write(1, 59, 1);
        Check.tells(sixty, "a sixtieth is 1", sixty.words(0, 1, 60), 59 + 99 * 99 - 10000);
    }

    @Says("STATUS tells NONE from -1.")
    static void noneIsToldFromWordsWorthOfMinusOne() {
        RoofGale x = prophet(1, 1, 0);
        Check.due("-1", x.words(0, 1, 1), -1);
        Check.due("STATUS of -1", x.status(), 0);
        Check.due("NONE", x.words(0, 1, 2), -1);
        Check.due("STATUS of NONE", x.status(), 4);
    }

    // ---- debts

    @Says({"OWED: who has the greatest DUE;", "OWED (8: no HOUSES)."})
    static void owedOfNoneAndOfSeveral() {
        RoofGale none = new RoofGale();
        Check.fails(none, "no houses", none.owed(), 8);
        RoofGale one = Check.at(houses(1));
        Check.tells(one, "one house", one.owed(), 0);
        RoofGale x = Check.at(houses(8));
        Check.tells(x, "of eight the first", x.owed(), 0);
        x.help(0, 7, 1);
        Check.tells(x, "the last", x.owed(), 7);
        x.help(1, 6, 1);
        Check.tells(x, "of two the first", x.owed(), 6);
        x.help(6, 7, 1);
        Check.tells(x, "2 rather than 0", x.owed(), 7);
        RoofGale below = Check.at(houses(2) + "helped a by b 1;");
        Check.tells(below, "0 is greater than -1", below.owed(), 1);
    }

    @Says({"FREE RIDERS: the set of HOUSES that were HELPED, and never helped.", "FREE RIDERS: a set."})
    static void ridersOfNoneAndOfSeven() {
        Check.due("no houses", new RoofGale().riders(), 0);
        StringBuilder text = new StringBuilder(houses(8));
        for (int h = 0; h < 7; h++) {
            text.append("helped ").append((char) ('a' + h)).append(" by h 1;");
        }
        RoofGale x = Check.at(text.toString());
        Check.tells(x, "all but the one that helped", x.riders(), 127);
        x.help(7, 0, 1);
        Check.tells(x, "without the one that helped back", x.riders(), 126);
        RoofGale line = Check.at(houses(3) + "helped b by a 1;helped c by b 1;");
        Check.tells(line, "the end of a line", line.riders(), 4);
        RoofGale one = Check.at(houses(2) + "helped b by a 1;");
        Check.tells(one, "one that the first helped", one.riders(), 2);
        RoofGale back = Check.at(houses(3) + "helped a by b 1;helped b by c 1;");
        Check.tells(back, "the end of a line", back.riders(), 1);
        RoofGale zero = Check.at(houses(2) + "helped a by b 0;");
        Check.tells(zero, "0 times is never", zero.riders(), 0);
        RoofGale again = Check.at(houses(2) + "helped a by b 5;helped a by b 0;");
        Check.tells(again, "told again: 0 times", again.riders(), 0);
    }

    @Says({"CHAIN: whom a HOUSE HELPED, and whom these HELPED, and so on: a set, it not.", "CHAIN: a set (2)."})
    static void chainThroughAllEight() {
        StringBuilder text = new StringBuilder(houses(8));
        for (int h = 7; h > 0; h--) {
            text.append("helped ").append((char) ('a' + h - 1)).append(" by ").append((char) ('a' + h)).append(" 1;");
        }
        RoofGale x = Check.at(text.toString());
        for (int h = 0; h < 8; h++) {
            Check.tells(x, "down from " + h, x.chain(h), (1 << h) - 1);
        }
        x.help(7, 0, 1);
        for (int h = 0; h < 8; h++) {
            Check.tells(x, "round from " + h + ", it not", x.chain(h), 255 - (1 << h));
        }
        for (int wrong : WIDEST) {
            Check.fails(x, "chain " + wrong, x.chain(wrong), 2);
        }
        Check.fails(x, "chain 8", x.chain(8), 2);
        RoofGale none = new RoofGale();
        Check.fails(none, "no houses", none.chain(0), 2);
    }

    @Says("By how much two HOUSES are not quits: how often the first was HELPED by the second, less the other way (STATUS tells NONE) (2; 5: one and itself).")
    static void quitsFromTheLeastToTheMost() {
        RoofGale x = Check.at(houses(8) + "helped a by h 99;");
        for (int i = 0; i < 100; i++) {
            x.help(0, 7, 99);
        }
        Check.tells(x, "the most", x.quits(0, 7), 9999);
        Check.tells(x, "the least", x.quits(7, 0), -9999);
        x.help(1, 2, 1);
        Check.due("-1", x.quits(2, 1), -1);
        Check.due("STATUS of -1", x.status(), 0);
        Check.due("NONE", x.quits(2, 2), -1);
        Check.due("STATUS of NONE", x.status(), 5);
        for (int wrong : new int[] {Integer.MIN_VALUE, -1, 8, Integer.MAX_VALUE}) {
            Check.fails(x, "quits", x.quits(wrong, 0), 2);
            Check.fails(x, "quits", x.quits(0, wrong), 2);
            Check.fails(x, "2 ahead of 5", x.quits(wrong, wrong), 2);
        }
    }

    // ---- the ground

    private static RoofGale onTheGround(int... lengths) {
        StringBuilder text = new StringBuilder();
        for (int i = 0; i < lengths.length; i++) {
            text.append("house ").append((char) ('a' + i)).append(" at 0 worth 1 pieces 1 weight 1 long ").append(lengths[i]).append(';');
        }
        RoofGale x = Check.at(text + "gang red of a hands 40;");
        x.hour(240);
        Check.tells(x, "all are off", x.many(6), (1 << lengths.length) - 1);
        return x;
    }

    @Says({"GROUND so long (1 to 99): the fewest rows of that length in which all roofs that are off, LONG, lie side by side; one that is longer: it can't be.",
        "GROUND (5; 9)."})
    static void groundFromOneToNinetyNine() {
        RoofGale x = onTheGround(20, 20, 20, 20, 20, 20, 20, 20);
        int[][] due = {{20, 8}, {39, 8}, {40, 4}, {59, 4}, {60, 3}, {79, 3}, {80, 2}, {99, 2}};
        for (int[] d : due) {
            Check.tells(x, "room " + d[0], x.ground(d[0]), d[1]);
        }
        Check.fails(x, "one is longer by 1", x.ground(19), 9);
        Check.fails(x, "room 1", x.ground(1), 9);
        for (int wrong : new int[] {Integer.MIN_VALUE, -1, 0, 100, Integer.MAX_VALUE}) {
            Check.fails(x, "room " + wrong, x.ground(wrong), 5);
        }
        RoofGale ones = onTheGround(1, 1, 1, 1, 1, 1, 1, 1);
        Check.tells(ones, "a row each", ones.ground(1), 8);
        Check.tells(ones, "7 and 1", ones.ground(7), 2);
        Check.tells(ones, "just", ones.ground(8), 1);
        RoofGale first = onTheGround(20, 1, 1);
        Check.fails(first, "the first is longer", first.ground(19), 9);
        Check.tells(first, "the first just", first.ground(20), 2);
        RoofGale last = onTheGround(1, 1, 20);
        Check.fails(last, "the last is longer", last.ground(19), 9);
        Check.tells(last, "the last just", last.ground(20), 2);
        RoofGale none = new RoofGale();
        Check.tells(none, "no roofs", none.ground(1), 0);
        Check.tells(none, "no roofs", none.ground(99), 0);
        RoofGale on = Check.at(houses(8));
        Check.tells(on, "all roofs are on", on.ground(1), 0);
        Check.fails(on, "5", on.ground(0), 5);
    }

    @Says("the fewest rows of that length in which all roofs that are off, LONG, lie side by side;")
    static void rowsThatAreFullToTheLast() {
        RoofGale x = onTheGround(7, 6, 5, 4, 3, 2, 2, 1);
        Check.tells(x, "7 3, 6 4, 5 2 2 1", x.ground(10), 3);
        RoofGale y = onTheGround(4, 4, 6, 6, 5, 5);
        Check.tells(y, "4 6, 4 6, 5 5", y.ground(10), 3);
        RoofGale z = onTheGround(9, 8, 2, 2, 5, 4);
        Check.tells(z, "9 2, 8 2, 5 4", z.ground(11), 3);
        Check.tells(z, "9 and 8 2 and 5 4 and 2", z.ground(10), 4);
        RoofGale w = onTheGround(20, 19, 18, 17, 16, 15, 14, 13);
        Check.tells(w, "20 13, 19 14, 18 15, 17 16", w.ground(33), 4);
        Check.tells(w, "a place less: one has to lie alone", w.ground(32), 5);
        Check.tells(w, "20 19 18 17, 16 15 14 13", w.ground(74), 2);
        Check.tells(w, "half of 132", w.ground(66), 2);
        Check.tells(w, "less than half", w.ground(65), 3);
    }

    // ---- signs, slates, neighbours

    private static RoofGale signed(String shore, int many, long sign) {
        RoofGale x = Check.at(shore);
        x.tray(3, 3, many);
        for (int place = 0; place < many; place++) {
            x.write(3, place, sign);
        }
        return x;
    }

    @Says({"SIGNS: a TRAY has for each of n PIECES (1 to 60) the HOUSE to which it was carried home: how many are more than a HOUSE's roof has, together.",
        "SIGNS, by the first n numbers of a TRAY (1; 3; 4; 5: n; 2: a number that is no HOUSE; asked in this order)."})
    static void signsOfOneToSixtyPieces() {
        String shore = "house a at 0 worth 1 pieces 9 weight 1;house b at 0 worth 1 pieces 1 weight 1;";
        RoofGale x = signed(shore, 60, 0);
        for (int n : new int[] {1, 8, 9, 10, 59, 60}) {
            Check.tells(x, n + " of a", x.signs(3, n), Math.max(0, n - 9));
        }
        x.write(3, 0, 1);
        x.write(3, 59, 1);
        Check.tells(x, "58 and 2", x.signs(3, 60), 49 + 1);
        Check.fails(x, "none", x.signs(3, 0), 5);
        Check.fails(x, "-1", x.signs(3, -1), 5);
        Check.fails(x, "the least", x.signs(3, Integer.MIN_VALUE), 5);
        Check.fails(x, "61", x.signs(3, 61), 4);
        Check.fails(x, "the most", x.signs(3, Integer.MAX_VALUE), 4);
        for (int wrong : new int[] {Integer.MIN_VALUE, -1, 4, Integer.MAX_VALUE}) {
            Check.fails(x, "tray " + wrong, x.signs(wrong, 1), 1);
            Check.fails(x, "1 ahead of 5", x.signs(wrong, 0), 1);
        }
        Check.fails(x, "missing", x.signs(2, 1), 3);
        Check.fails(x, "3 ahead of 4", x.signs(2, 61), 3);
        Check.fails(x, "3 ahead of 5", x.signs(2, 0), 3);
    }

    @Says("2: a number that is no HOUSE; asked in this order")
    static void aSignThatIsNoHouse() {
        for (long sign : new long[] {8, -1, Long.MIN_VALUE, Long.MAX_VALUE, 1L << 32, 1L << 35, 256}) {
            RoofGale x = signed(houses(8), 3, 7);
            x.write(3, 2, sign);
            Check.tells(x, "what lies behind n is not asked", x.signs(3, 2), 1);
            Check.fails(x, "sign " + sign, x.signs(3, 3), 2);
            Check.fails(x, "5 ahead of 2", x.signs(3, 0), 5);
            Check.fails(x, "4 ahead of 2", x.signs(3, 4), 4);
        }
        RoofGale none = signed("", 1, 0);
        Check.fails(none, "no houses", none.signs(3, 1), 2);
        RoofGale empty = signed(houses(1), 0, 0);
        Check.fails(empty, "an empty tray", empty.signs(3, 1), 4);
        Check.fails(empty, "none of an empty tray", empty.signs(3, 0), 5);
    }

    @Says({"FLOWN: a TRAY tells for each HOUSE 1 if it fell, 0 if not: the set of WINDS (1 for WIND 0 ..) by which of those HOUSES that STAND just these would fall, "
            + "roofs as they are;",
        "FLOWN: a set (1; 3; 4: fewer than HOUSES; 5: not 0, 1; asked in this order)."})
    static void flownByNoneAndByAllSixWinds() {
        String winds = "wind p 12 of 1;wind q 12 of 1;wind r 13 of 1;wind s 50 of 1;wind t 99 of 1;wind u 12 of 1;";
        RoofGale x = signed(houses(8) + winds, 8, 1);
        Check.tells(x, "by all six", x.flown(3), 63);
        x.write(3, 7, 0);
        Check.tells(x, "by none", x.flown(3), 0);
        for (long wrong : new long[] {2, -1, 255, 256, Long.MIN_VALUE, Long.MAX_VALUE, 1L << 32}) {
            x.write(3, 7, wrong);
            Check.fails(x, "flown of " + wrong, x.flown(3), 5);
            Check.fails(x, "likeliest of " + wrong, x.likeliest(3), 5);
        }
        RoofGale fewer = signed(houses(8) + winds, 7, 2);
        Check.fails(fewer, "fewer than houses, ahead of 5", fewer.flown(3), 4);
        Check.fails(fewer, "fewer than houses, ahead of 5", fewer.likeliest(3), 4);
        RoofGale more = signed(houses(8) + winds, 9, 1);
        more.write(3, 8, 2);
        Check.tells(more, "what lies behind the houses is not asked", more.flown(3), 63);
        RoofGale none = signed(winds, 0, 0);
        Check.tells(none, "no houses, an empty tray", none.flown(3), 63);
        Check.fails(none, "a missing one", none.flown(2), 3);
        RoofGale calm = signed(houses(8), 8, 1);
        Check.tells(calm, "no winds", calm.flown(3), 0);
        for (int wrong : new int[] {Integer.MIN_VALUE, -1, 4, Integer.MAX_VALUE}) {
            Check.fails(calm, "flown", calm.flown(wrong), 1);
            Check.fails(calm, "likeliest", calm.likeliest(wrong), 1);
        }
    }

    @Says("just these would fall, roofs as they are;")
    static void flownOfRoofsAsTheyAre() {
        RoofGale x = signed(houses(2) + "gang red of a hands 40;wind p 11 of 1;wind q 12 of 1;", 2, 0);
        Check.tells(x, "none would fall by 11", x.flown(3), 1);
        x.write(3, 1, 1);
        Check.tells(x, "b alone by none", x.flown(3), 0);
        x.hour(1);
        Check.tells(x, "a is off: b alone by 12", x.flown(3), 2);
        x.gale(12);
        x.write(3, 1, 0);
        Check.tells(x, "b fell ahead: nothing falls by any", x.flown(3), 3);
        x.write(3, 1, 1);
        Check.tells(x, "what is told of b is not asked, it does not stand", x.flown(3), 3);
    }

    @Says({"LIKELIEST: of these that with the most chances, of several the first.", "LIKELIEST (likewise; 8: none)."})
    static void likeliestOfSeveralTheFirst() {
        RoofGale x = signed(houses(1) + "wind p 11 of 99;wind q 12 of 98;wind r 13 of 98;wind s 14 of 1;wind t 15 of 1;wind u 16 of 97;", 1, 1);
        Check.tells(x, "of two the first", x.likeliest(3), 1);
        x.write(3, 0, 0);
        Check.tells(x, "the only one", x.likeliest(3), 0);
        RoofGale last = signed(houses(1) + "wind p 12 of 1;wind q 12 of 1;wind r 12 of 1;wind s 12 of 1;wind t 12 of 1;wind u 12 of 2;", 1, 1);
        Check.tells(last, "the last of six", last.likeliest(3), 5);
        last.write(3, 0, 0);
        Check.fails(last, "none", last.likeliest(3), 8);
        RoofGale once = signed(houses(1) + "wind p 12 of 1;", 1, 1);
        Check.tells(once, "by one chance", once.likeliest(3), 0);
        RoofGale calm = signed(houses(1), 1, 0);
        Check.fails(calm, "no winds", calm.likeliest(3), 8);
        calm.write(3, 0, 2);
        Check.fails(calm, "5 ahead of 8", calm.likeliest(3), 5);
        Check.fails(calm, "3 ahead of 8", calm.likeliest(0), 3);
    }

    @Says("The nearest other HOUSE that STANDS, of several the first (2; 8: none).")
    static void neighbourOfSeveralTheFirst() {
        int[] places = {30, 60, 0, 31, 29, 30, 30, 1};
        StringBuilder text = new StringBuilder();
        for (int h = 0; h < 8; h++) {
            text.append("house ").append((char) ('a' + h)).append(" at ").append(places[h]).append(" worth 1 pieces 1 weight ").append(h + 1).append(';');
        }
        RoofGale x = Check.at(text.toString());
        int[] due = {5, 3, 7, 0, 0, 0, 0, 2};
        for (int h = 0; h < 8; h++) {
            Check.tells(x, "neighbour of " + h, x.neighbour(h), due[h]);
        }
        x.gale(17);
        Check.tells(x, "but two fell", x.many(5), 192);
        for (int h = 0; h < 8; h++) {
            Check.tells(x, "of one that fell, too", x.neighbour(h), h == 6 || h == 2 ? 7 : 6);
        }
        x.gale(18);
        Check.fails(x, "itself it is not", x.neighbour(7), 8);
        Check.tells(x, "the only one", x.neighbour(0), 7);
        x.gale(99);
        Check.fails(x, "none stands", x.neighbour(0), 8);
        for (int wrong : WIDEST) {
            Check.fails(x, "2 ahead of 8", x.neighbour(wrong), 2);
        }
        Check.fails(x, "neighbour of 8", x.neighbour(8), 2);
        RoofGale one = Check.at(houses(1));
        Check.fails(one, "one house", one.neighbour(0), 8);
        RoofGale none = new RoofGale();
        Check.fails(none, "no houses", none.neighbour(0), 2);
    }
}
