import java.io.IOException;

/** The bounds of what the gale takes and of the best order. */
public final class BoundsPlanTest {
    private static final int[] WIDEST = {Integer.MIN_VALUE, Integer.MIN_VALUE + 1, -1, Integer.MAX_VALUE - 1, Integer.MAX_VALUE};

    public static void main(String[] args) throws IOException, ReflectiveOperationException {
        Sentences.run(BoundsPlanTest.class);
    }

    private static String house(String name, int at, int worth, int pieces, int weight) {
        return "house " + name + " at " + at + " worth " + worth + " pieces " + pieces + " weight " + weight + ";";
    }

    /** Eight houses with one piece each, by ones apart. */
    private static String eight(int worth, int weight) {
        StringBuilder text = new StringBuilder();
        for (int h = 0; h < 8; h++) {
            text.append(house(String.valueOf((char) ('a' + h)), h, worth, 1, weight));
        }
        return text.toString();
    }

    private static final String NO_WINDS = house("a", 0, 9, 1, 1) + "gang g of a hands 4;";

    // ---- what the gale takes

    @Says("The set of HOUSES that would fall by a strength (0 to 99) (5).")
    static void strengthsFromNoneToNinetyNine() {
        RoofGale x = Check.at(eight(1, 1));
        Check.tells(x, "0", x.falls(0), 0);
        Check.tells(x, "11", x.falls(11), 0);
        Check.tells(x, "12: all eight", x.falls(12), 255);
        Check.tells(x, "99", x.falls(99), 255);
        for (int wrong : new int[] {-1, 100, Integer.MIN_VALUE, Integer.MAX_VALUE}) {
            Check.fails(x, "falls " + wrong, x.falls(wrong), 5);
        }
        RoofGale none = new RoofGale();
        Check.tells(none, "no houses", none.falls(99), 0);
    }

    @Says({"RISK of a HOUSE: ODDS that it falls by the WINDS told, by their chances.", "The FRACTION is RISK (2; 8: no WINDS)."})
    static void riskFromNeverToAlways() {
        RoofGale x = Check.at(house("a", 0, 9, 1, 1) + house("b", 0, 9, 1, 2) + house("c", 0, 9, 1, 3) + "wind u 12 of 99;wind v 13 of 33;");
        Check.fraction(x, "always", x.risk(0), 1, 1);
        Check.fraction(x, "132 chances, 33 of them", x.risk(1), 1, 4);
        Check.fraction(x, "never", x.risk(2), 0, 1);
        RoofGale six = Check.at(house("a", 0, 9, 1, 1) + "wind p 0 of 99;wind q 11 of 99;wind r 0 of 99;wind s 0 of 99;wind t 0 of 99;wind u 12 of 98;");
        Check.fraction(six, "98 of 593", six.risk(0), 98, 593);
        RoofGale one = Check.at(house("a", 0, 9, 1, 1) + "wind p 99 of 1;");
        Check.fraction(one, "one wind", one.risk(0), 1, 1);
        Check.no(one, "risk", one.risk(1), 2);
        for (int wrong : WIDEST) {
            Check.no(one, "risk", one.risk(wrong), 2);
        }
        RoofGale none = Check.at(NO_WINDS);
        Check.no(none, "no winds", none.risk(0), 8);
        Check.no(none, "2 ahead of 8", none.risk(1), 2);
    }

    @Says({"LOSS: the mean of all WORTH that falls, roofs as they are.", "The FRACTION is LOSS (8: no WINDS)."})
    static void lossFromNothingToAll() {
        RoofGale x = Check.at(eight(999, 1) + "wind w 12 of 99;");
        Check.fraction(x, "all", x.loss(), 7992, 1);
        RoofGale most = Check.at(eight(999, 1) + "wind p 12 of 99;wind q 12 of 99;wind r 12 of 99;wind s 12 of 99;wind t 12 of 99;wind u 11 of 98;");
        Check.fraction(most, "495 of 593", most.loss(), 7992L * 495, 593);
        RoofGale houseless = Check.at("wind w 99 of 99;");
        Check.fraction(houseless, "no houses", houseless.loss(), 0, 1);
        RoofGale calm = Check.at(eight(999, 1) + "wind w 11 of 99;");
        Check.fraction(calm, "nothing falls", calm.loss(), 0, 1);
        RoofGale none = Check.at(NO_WINDS);
        Check.no(none, "no winds", none.loss(), 8);
        RoofGale off = Check.at(NO_WINDS + "wind w 99 of 7;");
        off.hour(1);
        Check.fraction(off, "roofs as they are", off.loss(), 0, 1);
    }

    @Says({"SAVES of an HOUR of n minutes: LOSS as it is, less LOSS behind that HOUR, less r for each roof that came off whole in it.",
        "The FRACTION is SAVES of an HOUR (1 to 240), r 0 to 99 (5; 8: no WINDS); all stays as it is."})
    static void savesOfTheShortestAndTheLongestHour() {
        String text = eight(3, 1) + "gang p of a hands 4 pace 0;wind v 12 of 1;wind w 11 of 1;";
        RoofGale x = Check.at(text);
        Check.fraction(x, "a minute, no rain", x.saves(1, 0), 3, 2);
        Check.fraction(x, "a minute, 1 each", x.saves(1, 1), 1, 2);
        Check.fraction(x, "a minute, 99 each", x.saves(1, 99), -195, 2);
        Check.fraction(x, "240 minutes", x.saves(240, 0), 12, 1);
        Check.fraction(x, "240 minutes, 99 each", x.saves(240, 99), 12 - 8 * 99, 1);
        for (int wrong : new int[] {Integer.MIN_VALUE, -1, 0, 241, Integer.MAX_VALUE}) {
            Check.no(x, wrong + " minutes", x.saves(wrong, 0), 5);
        }
        for (int wrong : new int[] {Integer.MIN_VALUE, -1, 100, Integer.MAX_VALUE}) {
            Check.no(x, "r " + wrong, x.saves(1, wrong), 5);
        }
        int[] many = {8, 1, 2, 3, 0, 255, 0, 24, 0, 2};
        for (int what = 0; what < many.length; what++) {
            Check.tells(x, "all stays as it is", x.many(what), many[what]);
        }
        Check.fails(x, "nothing at hand", x.gang(0, 4), 8);
        Check.tells(x, "at its house", x.gang(0, 3), 0);
        Check.tells(x, "no debts", x.house(0, 8), 0);
        RoofGale none = Check.at(NO_WINDS);
        Check.no(none, "no winds", none.saves(1, 0), 8);
        Check.no(none, "5 ahead of 8", none.saves(0, 0), 5);
        Check.no(none, "5 ahead of 8", none.saves(1, 100), 5);
    }

    @Says("all stays as it is.")
    static void savesGoesOnFromWhatIsAtHand() {
        RoofGale x = Check.at(house("a", 0, 9, 1, 20) + "gang g of a hands 8;wind w 99 of 3;");
        x.hour(9);
        Check.fraction(x, "a minute is left", x.saves(1, 2), 7, 1);
        Check.tells(x, "it is left still", x.gang(0, 5), 1);
        Check.tells(x, "it is at hand", x.gang(0, 4), 0);
        x.rest(0);
        Check.fraction(x, "begun anew", x.saves(9, 2), 0, 1);
        Check.fraction(x, "ten minutes", x.saves(10, 2), 7, 1);
    }

    @Says("The HOUSE by whose roof off LOSS would be less by the most, of several the first (8: no WINDS, none whose roof is ON and STANDS).")
    static void dearestOfSeveralTheFirst() {
        RoofGale x = Check.at(eight(7, 1) + "wind w 99 of 3;gang p of a hands 4;");
        Check.tells(x, "of eight the first", x.dearest(), 0);
        x.hour(1);
        Check.tells(x, "of seven the first", x.dearest(), 1);
        x.gale(99);
        Check.fails(x, "one is off, seven fell", x.dearest(), 8);
        RoofGale product = Check.at(house("a", 0, 5, 1, 1) + house("b", 0, 10, 1, 2) + house("c", 0, 999, 1, 20) + "wind v 12 of 1;wind w 13 of 1;");
        Check.tells(product, "5 by 1, 10 by a half: the first", product.dearest(), 0);
        RoofGale zero = Check.at(house("a", 0, 0, 1, 1) + house("b", 0, 0, 1, 1) + "wind w 99 of 3;");
        Check.tells(zero, "less by nothing", zero.dearest(), 0);
        RoofGale houseless = Check.at("wind w 99 of 3;");
        Check.fails(houseless, "no houses", houseless.dearest(), 8);
        RoofGale none = Check.at(NO_WINDS);
        Check.fails(none, "no winds", none.dearest(), 8);
    }

    @Says("The WIND by which the most WORTH falls, of several the first (8: no WINDS).")
    static void worstWindOfSeveralTheFirst() {
        RoofGale x = Check.at(house("a", 0, 5, 1, 1) + house("b", 0, 0, 1, 2) + "wind u 11 of 99;wind v 12 of 1;wind w 99 of 99;");
        Check.tells(x, "of two the first", x.worstWind(), 1);
        x.gale(99);
        Check.tells(x, "nothing is left: the first", x.worstWind(), 0);
        RoofGale six = Check.at(house("a", 0, 5, 1, 1) + "wind p 0 of 9;wind q 1 of 9;wind r 2 of 9;wind s 3 of 9;wind t 4 of 9;wind u 12 of 1;");
        Check.tells(six, "the last of six", six.worstWind(), 5);
        RoofGale houseless = Check.at("wind w 99 of 3;");
        Check.tells(houseless, "no houses", houseless.worstWind(), 0);
        RoofGale none = Check.at(NO_WINDS);
        Check.fails(none, "no winds", none.worstWind(), 8);
    }

    // ---- the best order

    private static void best(RoofGale x, String what, int minutes, int worth, int set) {
        Check.tells(x, what, x.best(0, minutes), worth);
        Check.tells(x, "the set of " + what, x.bestSet(), set);
    }

    @Says({"BEST for a GANG in n minutes (0 to 240), alone, from where it is, all roofs as they are: the set of HOUSES (that STAND, with roofs ON) "
            + "that it can get off, in whatever order, its own HOUSE at hand not minded, that are worth the most together; of several the fewest HOUSES, "
            + "then the least as a number.",
        "BEST for a GANG in n minutes (0 to 240): the WORTH (2; 5)."})
    static void bestFromNoneToAll() {
        RoofGale x = Check.at(eight(999, 1) + "gang p of a hands 4;");
        best(x, "no minutes", 0, 0, 0);
        best(x, "a minute", 1, 999, 1);
        best(x, "two minutes: by one place, or here", 2, 999, 1);
        best(x, "three minutes", 3, 1998, 3);
        best(x, "a minute less than all", 14, 6993, 127);
        best(x, "just all", 15, 7992, 255);
        best(x, "240 minutes", 240, 7992, 255);
        for (int wrong : new int[] {Integer.MIN_VALUE, -1, 241, Integer.MAX_VALUE}) {
            Check.fails(x, wrong + " minutes", x.best(0, wrong), 5);
        }
        for (int wrong : WIDEST) {
            Check.fails(x, "gang " + wrong, x.best(wrong, 1), 2);
            Check.fails(x, "2 ahead of 5", x.best(wrong, 241), 2);
        }
        Check.fails(x, "gang 1", x.best(1, 1), 2);
        Check.tells(x, "what was refused was not found", x.bestSet(), 255);
        RoofGale slow = Check.at(house("a", 0, 1, 3, 20) + "gang g of a hands 1;");
        best(slow, "239 of 240 minutes", 239, 0, 0);
        best(slow, "240 of 240 minutes", 240, 1, 1);
        RoofGale slower = Check.at(house("a", 0, 1, 1, 1) + house("b", 59, 1, 1, 1) + "gang g of a hands 1 pace 4;");
        best(slower, "a and 236 minutes of way and 4", 240, 1, 1);
        RoofGale none = Check.at("");
        Check.fails(none, "no gang", none.best(0, 1), 2);
    }

    @Says("of several the fewest HOUSES, then the least as a number.")
    static void ofSeveralTheFewestThenTheLeast() {
        RoofGale x = Check.at(house("a", 0, 3, 1, 1) + house("b", 0, 3, 1, 1) + house("c", 0, 6, 1, 2) + house("d", 0, 6, 1, 2) + house("e", 0, 0, 1, 1)
                + "gang g of a hands 4;");
        best(x, "a and b, or c, or d: one, the first", 2, 6, 4);
        best(x, "c and a or b, d and a or b", 3, 9, 5);
        best(x, "c and d rather than three", 4, 12, 12);
        best(x, "all but what is worth nothing", 240, 18, 15);
        RoofGale zero = Check.at(house("a", 0, 0, 1, 1) + house("b", 0, 0, 1, 1) + "gang g of a hands 4;");
        best(zero, "nothing is worth anything: no house", 240, 0, 0);
        RoofGale last = Check.at(house("a", 60, 9, 1, 1) + house("b", 0, 8, 1, 1) + house("c", 0, 8, 1, 1) + "gang g of b hands 4;");
        best(last, "the least as a number", 1, 8, 2);
        best(last, "two", 2, 16, 6);
        RoofGale pairs = Check.at(house("a", 0, 4, 1, 1) + house("b", 0, 1, 1, 1) + house("c", 0, 2, 1, 1) + house("d", 0, 3, 1, 1) + "gang g of a hands 4;");
        best(pairs, "7 by a and d", 2, 7, 9);
        RoofGale equal = Check.at(house("a", 0, 1, 1, 1) + house("b", 0, 4, 1, 1) + house("c", 0, 2, 1, 1) + house("d", 0, 3, 1, 1) + "gang g of a hands 4;");
        equal.gale(0);
        best(equal, "7 by b and d", 2, 7, 10);
        RoofGale sums = Check.at(house("a", 0, 1, 1, 1) + house("b", 0, 2, 1, 1) + house("c", 0, 3, 1, 9) + house("d", 0, 4, 1, 9) + house("e", 0, 0, 1, 1)
                + "gang g of a hands 36;");
        best(sums, "d and c, not more for it", 2, 7, 12);
    }

    @Says("all roofs as they are: the set of HOUSES (that STAND, with roofs ON) that it can get off, in whatever order, its own HOUSE at hand not minded,")
    static void bestMindsWhatIsOnAndNotWhatIsAtHand() {
        RoofGale x = Check.at(house("a", 0, 5, 3, 1) + house("b", 1, 9, 1, 2) + house("c", 0, 9, 1, 3) + "gang g of a hands 4;gang h of a hands 4;");
        x.lift(0, 0);
        x.lift(1, 1);
        x.hour(2);
        Check.tells(x, "a piece of a is on", x.house(0, 6), 1);
        x.gale(13);
        Check.tells(x, "a is gone, b and c are at no hand", x.many(5), 4);
        RoofGale y = Check.at(house("a", 0, 5, 3, 4) + house("b", 1, 9, 9, 2) + "gang g of a hands 8;gang h of a hands 4;");
        y.lift(0, 0);
        y.lift(1, 1);
        y.hour(3);
        Check.tells(y, "two pieces of a are on", y.house(0, 6), 2);
        Check.tells(y, "a minute of the second is left", y.gang(0, 5), 1);
        Check.tells(y, "eight pieces of b are on", y.house(1, 6), 8);
        best(y, "no piece that is begun", 3, 0, 0);
        best(y, "both pieces of a, whole", 4, 5, 1);
        best(y, "a minute less than b", 8, 5, 1);
        best(y, "b, which another has at hand", 9, 9, 2);
        best(y, "a minute less than both", 12, 9, 2);
        best(y, "both", 13, 14, 3);
        y.gale(13);
        best(y, "b fell", 13, 5, 1);
    }

    @Says("The set that best() found latest with STATUS 0 (8: there was none).")
    static void bestSetOfTheLatest() {
        RoofGale x = Check.at(NO_WINDS);
        Check.fails(x, "there was none", x.bestSet(), 8);
        x.best(0, 241);
        x.best(1, 1);
        Check.fails(x, "none with status 0", x.bestSet(), 8);
        x.best(0, 0);
        Check.tells(x, "an empty one", x.bestSet(), 0);
        x.best(0, 1);
        Check.tells(x, "the latest", x.bestSet(), 1);
        x.best(0, -1);
        Check.tells(x, "the latest with status 0", x.bestSet(), 1);
        x.gale(99);
        Check.shore(x, "");
        Check.tells(x, "whatever came since", x.bestSet(), 1);
    }

    @Says({"SOONEST for such a set: in how many minutes all are off;",
        "SOONEST of a GANG for a set of HOUSES (2; 5: no such HOUSES; 9: one whose roof is off, that fell)."})
    static void soonestOfNoneAndOfAll() {
        RoofGale x = Check.at(eight(1, 1) + "gang p of a hands 4;");
        Check.tells(x, "none", x.soonest(0, 0), 0);
        Check.tells(x, "the first", x.soonest(0, 1), 1);
        Check.tells(x, "the last", x.soonest(0, 128), 8);
        Check.tells(x, "all", x.soonest(0, 255), 15);
        for (int wrong : new int[] {256, 257, 511, -1, -256, Integer.MIN_VALUE, Integer.MAX_VALUE}) {
            Check.fails(x, "set " + wrong, x.soonest(0, wrong), 5);
            Check.fails(x, "2 ahead of 5", x.soonest(1, wrong), 2);
        }
        for (int wrong : WIDEST) {
            Check.fails(x, "gang " + wrong, x.soonest(wrong, 1), 2);
        }
        x.hour(1);
        Check.fails(x, "one whose roof is off", x.soonest(0, 3), 9);
        Check.fails(x, "5 ahead of 9", x.soonest(0, 257), 5);
        Check.fails(x, "2 ahead of 9", x.soonest(1, 1), 2);
        Check.tells(x, "the others", x.soonest(0, 254), 14);
        x.gale(99);
        Check.fails(x, "one that fell", x.soonest(0, 128), 9);
        Check.tells(x, "none", x.soonest(0, 0), 0);
        for (int houses = 1; houses < 8; houses++) {
            RoofGale y = Check.at(eight(1, 1).substring(0, house("a", 0, 1, 1, 1).length() * houses) + "gang p of a hands 4;");
            Check.tells(y, "all of " + houses, y.soonest(0, (1 << houses) - 1), 2 * houses - 1);
            Check.fails(y, "house " + houses, y.soonest(0, 1 << houses), 5);
        }
        RoofGale most = Check.at(house("a", 0, 1, 9, 20) + house("b", 60, 1, 9, 20) + house("c", 30, 1, 1, 1) + "gang p of c hands 1 pace 9;");
        Check.tells(most, "30, 60 places and 18 pieces", most.soonest(0, 3), 810 + 18 * 80);
    }

    @Says({"ORDER: of several the first by numbers.", "The k-th HOUSE in the ORDER, by soonest() latest with STATUS 0 (8: no such)."})
    static void orderOfNoneAndOfAll() {
        RoofGale x = Check.at(eight(1, 1) + "gang p of e hands 4;");
        Check.fails(x, "no soonest yet", x.order(0), 8);
        x.soonest(0, 256);
        Check.fails(x, "none with status 0", x.order(0), 8);
        x.soonest(0, 255);
        int[] order = {4, 5, 6, 7, 3, 2, 1, 0};
        for (int k = 0; k < 8; k++) {
            Check.tells(x, "to the nearer end first", x.order(k), order[k]);
        }
        Check.fails(x, "no ninth", x.order(8), 8);
        for (int wrong : WIDEST) {
            Check.fails(x, "order " + wrong, x.order(wrong), 8);
        }
        x.soonest(0, -1);
        x.gale(99);
        x.soonest(0, 255);
        Check.tells(x, "the latest with status 0", x.order(7), 0);
        Check.shore(x, "");
        Check.tells(x, "whatever came since", x.order(0), 4);
        RoofGale y = Check.at(eight(1, 1) + "gang p of d hands 4;gang q of d hands 4 pace 0;");
        y.soonest(1, 0b10101010);
        for (int k = 0; k < 4; k++) {
            Check.tells(y, "without a way, by numbers", y.order(k), 2 * k + 1);
        }
        Check.fails(y, "no fifth", y.order(4), 8);
        y.soonest(0, 0);
        Check.fails(y, "of no houses", y.order(0), 8);
        y.soonest(0, 255);
        for (int k = 0; k < 8; k++) {
            Check.tells(y, "down to a first, then all on the way up", y.order(k), k);
        }
        RoofGale even = Check.at(house("a", 7, 1, 1, 1) + house("b", 3, 1, 1, 1) + house("c", 5, 1, 1, 1) + "gang p of c hands 4;");
        even.soonest(0, 7);
        int[] first = {0, 2, 1};
        for (int k = 0; k < 3; k++) {
            Check.tells(even, "as far to both: a first, then c, which is on the way to b", even.order(k), first[k]);
        }
        Check.fails(even, "no fourth", even.order(3), 8);
    }

    @Says("of several the first by numbers.")
    static void orderGoesOnFromWhereTheGangHasCome() {
        String text = house("a", 7, 1, 1, 1) + house("b", 3, 1, 1, 1) + house("c", 7, 1, 1, 1) + house("d", 5, 1, 1, 1) + "gang g of d hands 4;";
        RoofGale x = Check.at(text);
        Check.tells(x, "to a, c and b", x.soonest(0, 7), 3 + 6);
        int[] order = {0, 2, 1};
        for (int k = 0; k < 3; k++) {
            Check.tells(x, "behind a, c is nearer than b", x.order(k), order[k]);
        }
        Check.tells(x, "all", x.soonest(0, 15), 4 + 6);
        int[] all = {0, 2, 3, 1};
        for (int k = 0; k < 4; k++) {
            Check.tells(x, "d on the way back", x.order(k), all[k]);
        }
    }

    @Says({"SHARED by all GANGS in n minutes: each HOUSE to one of them or to none: the most WORTH that can be saved.", "SHARED in n minutes (0 to 240): the WORTH (5)."})
    static void sharedFromNoneToAll() {
        RoofGale x = Check.at(eight(999, 1) + "gang p of a hands 4;gang q of c hands 4;gang r of e hands 4;gang s of g hands 4;");
        int[][] due = {{0, 0}, {1, 4 * 999}, {2, 4 * 999}, {3, 8 * 999}, {240, 8 * 999}};
        for (int[] d : due) {
            Check.tells(x, "shared in " + d[0], x.shared(d[0]), d[1]);
        }
        for (int wrong : new int[] {Integer.MIN_VALUE, -1, 241, Integer.MAX_VALUE}) {
            Check.fails(x, wrong + " minutes", x.shared(wrong), 5);
        }
        x.hour(1);
        Check.tells(x, "a alone lies on the ground", x.ground(99), 1);
        Check.tells(x, "a is off", x.shared(240), 7 * 999);
        Check.tells(x, "as it is: nothing in no minutes", x.shared(0), 0);
        x.gale(99);
        Check.tells(x, "the others fell", x.shared(240), 0);
        RoofGale gangless = Check.at(eight(999, 1));
        Check.tells(gangless, "no gangs", gangless.shared(240), 0);
        RoofGale none = new RoofGale();
        Check.tells(none, "no houses", none.shared(240), 0);
        RoofGale one = Check.at(house("a", 0, 5, 1, 3) + house("b", 0, 4, 1, 2) + house("c", 0, 3, 1, 1) + "gang p of a hands 4;gang q of a hands 4;");
        Check.tells(one, "a by one, b and c by the other", one.shared(3), 12);
        Check.tells(one, "each house by one of them alone", one.shared(2), 7);
    }

    @Says("In how many minutes (0 to 999) all roofs that are ON, of HOUSES that STAND, can be off by all GANGS, shared as well as can be (8: not in 999).")
    static void allOffFromNoneToNineHundredNinetyNine() {
        RoofGale none = new RoofGale();
        Check.tells(none, "no houses", none.allOff(), 0);
        RoofGale gangless = Check.at(eight(1, 1));
        Check.fails(gangless, "no gangs", gangless.allOff(), 8);
        gangless.gale(99);
        Check.tells(gangless, "all fell", gangless.allOff(), 0);
        RoofGale full = Check.at(eight(1, 1) + "gang p of a hands 4;gang q of c hands 4;gang r of e hands 4;gang s of g hands 4;");
        Check.tells(full, "two each", full.allOff(), 3);
        full.hour(240);
        Check.tells(full, "all are off", full.allOff(), 0);
        Check.tells(full, "and lie in one row", full.ground(32), 1);
        Check.tells(full, "all are off still", full.allOff(), 0);
        // 9 pieces of 108 minutes, then one of 27
        String long972 = "house a at 0 worth 1 pieces 9 weight 20 pegs 7;";
        RoofGale just = Check.at(long972 + "house b at 3 worth 1 pieces 1 weight 6;gang g of a hands 1;");
        Check.tells(just, "999", just.allOff(), 999);
        RoofGale over = Check.at(long972 + "house b at 4 worth 1 pieces 1 weight 6;gang g of a hands 1;");
        Check.fails(over, "1,000", over.allOff(), 8);
        RoofGale two = Check.at(long972 + "house b at 4 worth 1 pieces 1 weight 6;gang g of a hands 1;gang h of b hands 1;");
        Check.tells(two, "972 and 24", two.allOff(), 972);
        RoofGale as = Check.at(long972 + "gang g of a hands 1;");
        as.hour(108);
        Check.tells(as, "a piece is off", as.allOff(), 864);
        as.hour(1);
        Check.tells(as, "roofs as they are: what is begun is not minded", as.allOff(), 864);
    }
}
