import java.io.IOException;

/** The bounds of lifting: minutes of pieces and ways, hours, whose turn it is, gales, dawns and debts. */
public final class BoundsHourTest {
    private static final int[] WIDEST = {Integer.MIN_VALUE, Integer.MIN_VALUE + 1, -1, Integer.MAX_VALUE - 1, Integer.MAX_VALUE};

    public static void main(String[] args) throws IOException, ReflectiveOperationException {
        Sentences.run(BoundsHourTest.class);
    }

    private static String house(String name, int at, int worth, int pieces, int weight) {
        return "house " + name + " at " + at + " worth " + worth + " pieces " + pieces + " weight " + weight + ";";
    }

    /** Houses of one piece each, all of them at 0, lifted in a minute by whoever has 40 hands. */
    private static String light(int many) {
        StringBuilder text = new StringBuilder();
        for (int h = 0; h < many; h++) {
            text.append(house(String.valueOf((char) ('a' + h)), 0, 1, 1, 1));
        }
        return text.toString();
    }

    // ---- a roof, a piece

    @Says("A roof is ON as long as a PIECE of it is.")
    static void aRoofIsOnUntilItsLastPieceIsOff() {
        for (int pieces = 1; pieces <= 9; pieces++) {
            RoofGale x = Check.at(house("a", 0, 1, pieces, 1) + "gang g of a hands 40;");
            for (int off = 0; off < pieces; off++) {
                Check.tells(x, "pieces that are on", x.house(0, 6), pieces - off);
                Check.tells(x, "none is off", x.many(6), 0);
                Check.tells(x, "it would fall", x.falls(12), 1);
                Check.tells(x, "its last piece alone takes it off", x.hour(1), off == pieces - 1 ? 1 : 0);
            }
            Check.tells(x, "pieces that are on", x.house(0, 6), 0);
            Check.tells(x, "it is off", x.many(6), 1);
            Check.tells(x, "it would not fall", x.falls(99), 0);
        }
    }

    @Says({"LIFTING a PIECE takes so many minutes: WEIGHT and PEGS together, times 4, by the HANDS of the GANG, rounded up, 1 at least.",
        "How many minutes a PIECE of a HOUSE takes a GANG (2)."})
    static void minutesOfAPieceAreRoundedUp() {
        int[][] roofs = {{1, 0}, {1, 9}, {2, 0}, {3, 1}, {10, 5}, {19, 0}, {20, 0}, {20, 9}};
        StringBuilder houses = new StringBuilder();
        for (int h = 0; h < 8; h++) {
            houses.append("house ").append((char) ('a' + h)).append(" at 0 worth 1 pieces 1 weight ").append(roofs[h][0]).append(" pegs ").append(roofs[h][1]).append(';');
        }
        for (int hands = 1; hands <= 37; hands += 4) {
            StringBuilder gangs = new StringBuilder();
            for (int g = 0; g < 4; g++) {
                gangs.append("gang ").append((char) ('p' + g)).append(" of a hands ").append(hands + g).append(';');
            }
            RoofGale x = Check.at(houses.toString() + gangs);
            for (int g = 0; g < 4; g++) {
                for (int h = 0; h < 8; h++) {
                    int minutes = 1;
                    while (minutes * (hands + g) < 4 * (roofs[h][0] + roofs[h][1])) {
                        minutes++;
                    }
                    Check.tells(x, "weight " + roofs[h][0] + ", pegs " + roofs[h][1] + " by " + (hands + g), x.takes(g, h), minutes);
                }
            }
        }
    }

    @Says("rounded up, 1 at least.")
    static void aPieceTakesAMinuteAtLeast() {
        RoofGale x = Check.at(house("a", 0, 1, 1, 1) + house("b", 0, 1, 1, 10) + house("c", 0, 1, 1, 11) + "gang g of a hands 40;gang h of a hands 4;gang i of a hands 3;");
        Check.tells(x, "a tenth of a minute", x.takes(0, 0), 1);
        Check.tells(x, "a minute just", x.takes(1, 0), 1);
        Check.tells(x, "a minute and a third", x.takes(2, 0), 2);
        Check.tells(x, "a minute just", x.takes(0, 1), 1);
        Check.tells(x, "a minute and a tenth", x.takes(0, 2), 2);
        Check.tells(x, "it is off in a minute, not at once", x.lift(0, 0), 0);
        Check.tells(x, "a minute is left", x.gang(0, 5), 1);
        Check.tells(x, "one in the hour", x.hour(1), 1);
        for (int wrong : WIDEST) {
            Check.fails(x, "takes", x.takes(wrong, 0), 2);
            Check.fails(x, "takes", x.takes(0, wrong), 2);
        }
        Check.fails(x, "takes", x.takes(3, 0), 2);
        Check.fails(x, "takes", x.takes(0, 3), 2);
    }

    @Says("How many minutes its way to a HOUSE takes a GANG from where it is (2).")
    static void waysFromNoneToTheLongest() {
        RoofGale x = Check.at(house("a", 0, 1, 1, 1) + house("b", 60, 1, 1, 1) + house("c", 1, 1, 1, 1)
                + "gang g of a hands 1 pace 9;gang h of b hands 1 pace 9;gang i of a hands 1 pace 0;gang j of a hands 1;");
        int[][] due = {{0, 540, 9}, {540, 0, 531}, {0, 0, 0}, {0, 60, 1}};
        for (int g = 0; g < 4; g++) {
            for (int h = 0; h < 3; h++) {
                Check.tells(x, "way of " + g + " to " + h, x.walk(g, h), due[g][h]);
            }
        }
        x.lift(0, 1);
        Check.tells(x, "from where it is, at the way's end from the first minute on", x.walk(0, 0), 540);
        for (int wrong : WIDEST) {
            Check.fails(x, "walk", x.walk(wrong, 0), 2);
            Check.fails(x, "walk", x.walk(0, wrong), 2);
        }
        Check.fails(x, "walk", x.walk(4, 0), 2);
        Check.fails(x, "walk", x.walk(0, 3), 2);
    }

    // ---- the hour

    @Says({"HOUR of n minutes: minute by minute, GANG by GANG: one that has no HOUSE at hand takes the first by the LAW whose roof is ON, that STANDS and "
            + "that no other GANG has at hand: its way there takes PACE for each place, and it is AT that place from now on.",
        "HOUR of n minutes (1 to 240): how many roofs came off whole in it (5; 7: the MINUTE would be above 9,999)."})
    static void anHourHasOneToTwoHundredFortyMinutes() {
        RoofGale x = Check.at(light(8) + "gang p of a hands 40;gang q of b hands 40;gang r of c hands 40;gang s of d hands 40;");
        for (int wrong : new int[] {Integer.MIN_VALUE, -240, -1, 0, 241, Integer.MAX_VALUE}) {
            Check.fails(x, wrong + " minutes", x.hour(wrong), 5);
        }
        Check.tells(x, "no minute went by", x.many(4), 0);
        Check.tells(x, "one minute", x.hour(1), 4);
        Check.tells(x, "the first four", x.many(6), 15);
        Check.tells(x, "240 minutes", x.hour(240), 4);
        Check.tells(x, "all eight", x.many(6), 255);
        Check.tells(x, "the minute", x.many(4), 241);
        RoofGale none = new RoofGale();
        Check.tells(none, "no house, no gang", none.hour(240), 0);
        Check.tells(none, "the minute", none.many(4), 240);
        RoofGale houses = Check.at(light(8));
        Check.tells(houses, "no gang", houses.hour(240), 0);
    }

    @Says("(5; 7: the MINUTE would be above 9,999)")
    static void theMinuteIsNeverAbove9999() {
        RoofGale x = Check.at(light(1));
        for (int i = 1; i <= 41; i++) {
            Check.tells(x, "an hour", x.hour(240), 0);
        }
        Check.tells(x, "the minute", x.many(4), 9840);
        Check.fails(x, "10,000", x.hour(160), 7);
        Check.fails(x, "10,080", x.hour(240), 7);
        Check.fails(x, "5 ahead of 7", x.hour(241), 5);
        Check.fails(x, "5 ahead of 7", x.hour(Integer.MAX_VALUE), 5);
        Check.tells(x, "the minute is as it was", x.many(4), 9840);
        Check.tells(x, "9,999", x.hour(159), 0);
        Check.tells(x, "the minute", x.many(4), 9999);
        Check.fails(x, "a minute more", x.hour(1), 7);
        Check.fails(x, "no minute", x.hour(0), 5);
        x.dawn();
        Check.tells(x, "from 0 again", x.hour(240), 0);
    }

    @Says("whose roof is ON, that STANDS and that no other GANG has at hand:")
    static void whatCannotBeTakenIsPassedBy() {
        RoofGale x = Check.at(house("a", 0, 4, 1, 1) + house("b", 0, 3, 1, 2) + house("c", 0, 2, 1, 20) + house("d", 0, 1, 1, 20)
                + "gang g of a hands 40;gang h of a hands 40;law worth;");
        x.lift(0, 0);
        x.lift(1, 2);
        x.hour(1);
        x.gale(13);
        Check.tells(x, "a is off, b fell", x.many(5) * 16 + x.many(6), 13 * 16 + 1);
        Check.tells(x, "c is at hand", x.next(0), 3);
        x.rest(1);
        Check.tells(x, "c", x.next(0), 2);
        x.lift(0, 3);
        Check.tells(x, "c", x.next(1), 2);
        x.lift(0, 2);
        Check.tells(x, "d", x.next(1), 3);
        x.gale(99);
        Check.fails(x, "none", x.next(1), 8);
    }

    @Says("its way there takes PACE for each place, and it is AT that place from now on.")
    static void paceZeroOneAndNine() {
        for (int pace : new int[] {0, 1, 9}) {
            RoofGale x = Check.at(house("a", 0, 1, 1, 1) + house("b", 7, 9, 1, 1) + "gang g of a hands 4 pace " + pace + ";law worth;");
            int way = 7 * pace;
            if (way > 0) {
                Check.tells(x, "on its way", x.hour(way), 0);
                Check.tells(x, "at that place", x.gang(0, 3), 7);
                Check.tells(x, "the piece is left", x.gang(0, 5), 1);
            }
            Check.tells(x, "the next minute lifts", x.hour(1), 1);
            Check.tells(x, "at that place", x.gang(0, 3), 7);
            Check.fails(x, "nothing at hand", x.gang(0, 4), 8);
        }
    }

    @Says({"Then it does a minute of its way, if any is left, else of lifting a PIECE; when the PIECE's minutes are done it is off, when all are it has none at hand, "
            + "in the next minute it takes another one."})
    static void minuteByMinute() {
        RoofGale x = Check.at(house("a", 0, 9, 2, 2) + house("b", 2, 8, 1, 1) + "gang g of a hands 4;law worth;");
        int[] hand = {0, 0, 0, -1, 1, 1, -1, -1};
        int[] left = {1, 2, 1, 0, 2, 1, 0, 0};
        int[] pieces = {2, 1, 1, 0, 0, 0, 0, 0};
        int[] off = {0, 0, 0, 1, 0, 0, 1, 0};
        for (int minute = 0; minute < hand.length; minute++) {
            Check.tells(x, "off in minute " + minute, x.hour(1), off[minute]);
            Check.due("at hand behind minute " + minute, x.gang(0, 4), hand[minute]);
            Check.tells(x, "left behind minute " + minute, x.gang(0, 5), left[minute]);
            Check.tells(x, "pieces behind minute " + minute, x.house(0, 6), pieces[minute]);
        }
    }

    @Says("when all are it has none at hand, in the next minute it takes another one.")
    static void gangByGangInOneMinute() {
        RoofGale x = Check.at(light(3) + "gang g of a hands 40;gang h of a hands 40;");
        Check.tells(x, "g a, h b", x.hour(1), 2);
        Check.tells(x, "a and b", x.many(6), 3);
        Check.tells(x, "c, by g", x.hour(1), 1);
        Check.tells(x, "h helps b alone", x.helped(1, 0) * 10 + x.helped(2, 0), 11);
        RoofGale same = Check.at(house("a", 0, 1, 1, 1) + "gang g of a hands 40;gang h of a hands 40;");
        Check.tells(same, "g alone; h has none to take in this minute", same.hour(1), 1);
        Check.fails(same, "none at hand", same.gang(1, 4), 8);
    }

    @Says("What is not finished goes on in the next HOUR.")
    static void anHourCutInTwoIsTheSameHour() {
        String text = house("a", 3, 5, 2, 9) + house("b", 0, 9, 3, 7) + house("c", 9, 7, 1, 20) + "gang g of a hands 7;gang h of c hands 9 pace 2;law worth;";
        for (int whole = 2; whole <= 60; whole++) {
            for (int first = 1; first < whole; first++) {
                RoofGale x = Check.at(text);
                RoofGale y = Check.at(text);
                Check.due("roofs in " + first + " and " + (whole - first), x.hour(first) + x.hour(whole - first), y.hour(whole));
                for (int what = 4; what <= 6; what++) {
                    Check.due("many " + what, x.many(what), y.many(what));
                }
                for (int g = 0; g < 2; g++) {
                    for (int what = 3; what <= 5; what++) {
                        Check.due("gang " + what + " cut at " + first + " of " + whole, x.gang(g, what), y.gang(g, what));
                    }
                }
                for (int h = 0; h < 3; h++) {
                    Check.due("pieces", x.house(h, 6), y.house(h, 6));
                    Check.due("due", x.house(h, 8), y.house(h, 8));
                }
            }
        }
    }

    // ---- whose turn it is

    @Says({"LAW: worth: the greatest WORTH first; owed: the greatest DUE first; near: that nearest to the GANG; told: as they are numbered; of several the first.",
        "The HOUSE that a GANG without one would take by the LAW now (2; 9: it has one, ahead of 8: there is none to take)."})
    static void ofSeveralTheFirst() {
        String houses = house("a", 6, 1, 1, 1) + house("b", 8, 7, 1, 1) + house("c", 4, 7, 1, 1) + house("d", 5, 0, 1, 1) + house("e", 8, 7, 1, 1);
        String behind = "gang g of a hands 1;gang h of b hands 1;helped a by d 2;helped b by c 2;helped e by d 0;law ";
        int[][] first = {{1, 1}, {2, 2}, {0, 1}, {0, 0}};
        String[] laws = {"worth", "owed", "near", "told"};
        for (int law = 0; law < 4; law++) {
            RoofGale x = Check.at(houses + behind + laws[law] + ";");
            Check.tells(x, "g by " + laws[law], x.next(0), first[law][0]);
            Check.tells(x, "h by " + laws[law], x.next(1), first[law][1]);
            x.hour(1);
            Check.tells(x, "g took it by " + laws[law], x.gang(0, 4), first[law][0]);
        }
        RoofGale x = Check.at(house("d", 60, 1, 1, 1) + house("a", 30, 1, 1, 1) + house("b", 29, 1, 1, 1) + house("c", 31, 1, 1, 1) + "gang g of a hands 4;law near;");
        int[] order = {1, 2, 3, 0};
        for (int k = 0; k < 4; k++) {
            Check.tells(x, "near, from where it is", x.next(0), order[k]);
            x.hour(x.walk(0, order[k]) + 1);
        }
        Check.fails(x, "there is none to take", x.next(0), 8);
        for (int wrong : WIDEST) {
            Check.fails(x, "next", x.next(wrong), 2);
        }
        Check.fails(x, "next", x.next(1), 2);
    }

    @Says("9: it has one, ahead of 8: there is none to take")
    static void itHasOneIsToldAheadOfNoneToTake() {
        RoofGale x = Check.at(house("a", 0, 1, 1, 20) + "gang g of a hands 1;gang h of a hands 1;");
        Check.tells(x, "one to take", x.next(0), 0);
        x.lift(0, 0);
        Check.fails(x, "it has the only one", x.next(0), 9);
        Check.fails(x, "the other has it", x.next(1), 8);
        x.rest(0);
        Check.tells(x, "one to take", x.next(1), 0);
    }

    @Says("A GANG whose HOUSE at hand falls has none.")
    static void aFallenHouseIsAtNoHand() {
        RoofGale x = Check.at(house("a", 0, 1, 2, 1) + house("b", 9, 1, 2, 2) + house("c", 0, 1, 2, 3) + "gang g of a hands 4;gang h of b hands 4;gang i of a hands 4;");
        x.lift(0, 1);
        x.lift(1, 0);
        x.hour(3);
        Check.tells(x, "one falls", x.gale(12), 1);
        Check.fails(x, "h has none", x.gang(1, 4), 8);
        Check.tells(x, "nothing is left", x.gang(1, 5), 0);
        Check.tells(x, "it stays where it is", x.gang(1, 3), 0);
        Check.tells(x, "g has b still", x.gang(0, 4), 1);
        Check.tells(x, "its way goes on", x.gang(0, 5), 8);
        Check.tells(x, "the others fall", x.gale(14), 2);
        Check.fails(x, "g has none", x.gang(0, 4), 8);
        Check.tells(x, "at the place to which it was on its way", x.gang(0, 3), 9);
        Check.fails(x, "i has none", x.gang(2, 4), 8);
    }

    @Says("DUE of a HOUSE: how often it helped others, less how often it was HELPED.")
    static void dueFromTheLeastToTheGreatest() {
        StringBuilder text = new StringBuilder(light(8));
        for (int h = 1; h < 8; h++) {
            text.append("helped ").append((char) ('a' + h)).append(" by a 99;");
        }
        RoofGale x = Check.at(text.toString());
        Check.tells(x, "helped seven", x.house(0, 8), 693);
        for (int h = 1; h < 8; h++) {
            Check.tells(x, "helped by one", x.house(h, 8), -99);
        }
        x.help(0, 1, 99);
        Check.tells(x, "helped seven, helped by one", x.house(0, 8), 594);
        Check.tells(x, "quits", x.house(1, 8), 0);
        RoofGale y = Check.at(text.toString().replaceAll("helped (.) by a", "helped a by $1"));
        Check.tells(y, "helped by seven", y.house(0, 8), -693);
    }

    // ---- lift and rest

    @Says({"A GANG takes a HOUSE at hand, in place of what it has (its way is told anew, a PIECE begun anew): the minutes of its way "
            + "(2; 9: its roof is off, it fell, another GANG has it)."})
    static void aPieceIsBegunAnew() {
        RoofGale x = Check.at(house("a", 0, 1, 2, 3) + house("b", 5, 1, 1, 3) + "gang g of a hands 4;");
        Check.tells(x, "no way", x.lift(0, 0), 0);
        x.hour(2);
        Check.tells(x, "a minute is left", x.gang(0, 5), 1);
        Check.tells(x, "the same again", x.lift(0, 0), 0);
        Check.tells(x, "begun anew", x.gang(0, 5), 3);
        x.hour(4);
        Check.tells(x, "a piece is off", x.house(0, 6), 1);
        Check.tells(x, "two minutes are left", x.gang(0, 5), 2);
        Check.tells(x, "on its way", x.lift(0, 1), 5);
        x.hour(2);
        Check.tells(x, "told anew from where it is", x.lift(0, 1), 0);
        Check.tells(x, "no way is left", x.gang(0, 5), 3);
        Check.tells(x, "back", x.lift(0, 0), 5);
        Check.tells(x, "the piece that is on, whole", x.gang(0, 5), 8);
    }

    @Says("(2; 9: its roof is off, it fell, another GANG has it)")
    static void whatAGangCannotTake() {
        RoofGale x = Check.at(house("a", 0, 1, 1, 1) + house("b", 5, 1, 1, 1) + house("c", 0, 1, 1, 20) + "gang g of a hands 4;gang h of c hands 4;");
        x.lift(1, 2);
        x.hour(1);
        x.gale(12);
        Check.fails(x, "its roof is off", x.lift(0, 0), 9);
        Check.fails(x, "it fell", x.lift(0, 1), 9);
        Check.fails(x, "another has it", x.lift(0, 2), 9);
        Check.fails(x, "what was refused changes nothing", x.gang(0, 4), 8);
        Check.tells(x, "its own", x.lift(1, 2), 0);
        for (int wrong : WIDEST) {
            Check.fails(x, "lift", x.lift(wrong, 0), 2);
            Check.fails(x, "lift", x.lift(0, wrong), 2);
        }
        Check.fails(x, "lift", x.lift(2, 0), 2);
        Check.fails(x, "lift", x.lift(0, 3), 2);
    }

    @Says("A GANG has nothing at hand (2; 8: it has not).")
    static void restTwice() {
        RoofGale x = Check.at(house("a", 0, 1, 1, 3) + house("b", 5, 1, 1, 3) + "gang g of a hands 4;");
        Check.no(x, "it has not", x.rest(0), 8);
        x.lift(0, 1);
        x.hour(6);
        Check.yes(x, "it has", x.rest(0));
        Check.no(x, "it has not", x.rest(0), 8);
        Check.tells(x, "nothing is left", x.gang(0, 5), 0);
        Check.tells(x, "where it is", x.gang(0, 3), 5);
        for (int wrong : WIDEST) {
            Check.no(x, "rest", x.rest(wrong), 2);
        }
        Check.no(x, "rest", x.rest(1), 2);
        Check.tells(x, "a piece that was begun is lost: way 5 and 3 minutes", x.hour(7), 0);
        Check.tells(x, "then it is off", x.hour(1), 1);
    }

    // ---- gale, dawn, help

    @Says({"GALE of a strength s: each HOUSE that STANDS, with its roof ON, falls if s is more than 10 and its WEIGHT, and its PEGS, three times, together.",
        "GALE of a strength (0 to 99): how many HOUSES fall (5)."})
    static void itFallsByOneMoreThanItBears() {
        for (int weight = 1; weight <= 20; weight++) {
            for (int pegs = 0; pegs <= 9; pegs++) {
                RoofGale x = Check.at("house a at 0 worth 1 pieces 1 weight " + weight + " pegs " + pegs + ";");
                int bears = 10 + weight + 3 * pegs;
                Check.tells(x, "the least strength", x.house(0, 7), bears + 1);
                Check.tells(x, "would stand by " + bears, x.falls(bears), 0);
                Check.tells(x, "would fall by " + (bears + 1), x.falls(bears + 1), 1);
                Check.tells(x, "stands by " + bears, x.gale(bears), 0);
                Check.tells(x, "falls by " + (bears + 1), x.gale(bears + 1), 1);
                Check.tells(x, "falls once", x.gale(99), 0);
            }
        }
        RoofGale x = Check.at(light(8));
        for (int wrong : new int[] {Integer.MIN_VALUE, -1, 100, Integer.MAX_VALUE}) {
            Check.fails(x, "a strength of " + wrong, x.gale(wrong), 5);
        }
        Check.tells(x, "the least strength", x.gale(0), 0);
        Check.tells(x, "the greatest: all eight", x.gale(99), 8);
        RoofGale none = new RoofGale();
        Check.tells(none, "no houses", none.gale(99), 0);
    }

    @Says("that STANDS, with its roof ON, falls")
    static void aRoofThatIsOffDoesNotFall() {
        RoofGale x = Check.at(house("a", 0, 1, 2, 1) + house("b", 0, 1, 1, 1) + "gang g of a hands 4;");
        x.hour(2);
        Check.tells(x, "a is off", x.gale(99), 1);
        Check.tells(x, "a stands", x.many(5), 1);
        x.dawn();
        Check.tells(x, "on again", x.gale(99), 1);
        RoofGale y = Check.at(house("a", 0, 1, 2, 1) + "gang g of a hands 4;");
        y.hour(1);
        Check.tells(y, "on by one piece of two", y.gale(12), 1);
    }

    @Says({"DAWN: all roofs of HOUSES that STAND are ON again, PIECES and all; GANGS have nothing at hand (where they are they stay), it is MINUTE 0.",
        "DAWN: how many roofs were not wholly ON."})
    static void dawnCountsRoofsThatWereNotWhollyOn() {
        RoofGale x = Check.at(house("a", 0, 1, 1, 1) + house("b", 5, 1, 9, 5) + house("c", 0, 1, 1, 2) + "gang g of a hands 4;");
        Check.tells(x, "none", x.dawn(), 0);
        x.hour(1);
        x.lift(0, 1);
        x.hour(10);
        Check.tells(x, "a piece of b is off", x.house(1, 6), 8);
        x.gale(12);
        x.gale(13);
        Check.tells(x, "c fell", x.many(5), 3);
        Check.tells(x, "a and b, not c which was wholly on", x.dawn(), 2);
        Check.tells(x, "all pieces", x.house(1, 6), 9);
        Check.tells(x, "minute 0", x.many(4), 0);
        Check.fails(x, "nothing at hand", x.gang(0, 4), 8);
        Check.tells(x, "nothing is left", x.gang(0, 5), 0);
        Check.tells(x, "where it is it stays", x.gang(0, 3), 5);
        Check.tells(x, "c does not stand again", x.many(5), 3);
        Check.tells(x, "none", x.dawn(), 0);
        RoofGale none = new RoofGale();
        Check.tells(none, "no houses", none.dawn(), 0);
        RoofGale eight = Check.at(light(8) + "gang p of a hands 40;");
        eight.hour(240);
        Check.tells(eight, "all eight", eight.dawn(), 8);
        Check.tells(eight, "none is off", eight.many(6), 0);
    }

    @Says({"HELP: a HOUSE whose last PIECE a GANG lifted is HELPED once more (9,999 at most) by the HOUSE whose GANG it is (by itself not)."})
    static void whoseLastPieceAGangLifted() {
        RoofGale x = Check.at(house("a", 0, 1, 2, 1) + house("b", 0, 1, 2, 1) + "gang g of a hands 40;gang h of b hands 40;");
        x.lift(0, 1);
        x.lift(1, 0);
        x.hour(1);
        Check.tells(x, "not by the first piece", x.helped(1, 0) + x.helped(0, 1), 0);
        x.rest(0);
        x.lift(1, 1);
        x.lift(0, 0);
        x.hour(1);
        Check.tells(x, "both are off", x.many(6), 3);
        Check.tells(x, "by itself not", x.house(0, 8), 0);
        Check.tells(x, "who lifted a piece ahead does not count", x.helped(1, 0), 0);
        x.dawn();
        x.lift(0, 1);
        x.hour(2);
        Check.tells(x, "b by a once more", x.helped(1, 0), 1);
        Check.tells(x, "a by b once more", x.helped(0, 1), 1);
    }

    @Says({"Who HELPED whom: a HOUSE was helped by another one so many times more (1 to 99): how often it was then (2; 5; 7: above 9,999).", "(9,999 at most)"})
    static void helpedToNineThousandNineHundredNinetyNine() {
        RoofGale x = Check.at(light(2) + "gang g of a hands 40;helped b by a 99;");
        for (int times = 198; times <= 9900; times += 99) {
            Check.tells(x, "99 more", x.help(1, 0, 99), times);
        }
        Check.tells(x, "98 more", x.help(1, 0, 98), 9998);
        Check.fails(x, "10,000", x.help(1, 0, 2), 7);
        Check.fails(x, "10,097", x.help(1, 0, 99), 7);
        Check.fails(x, "5 ahead of 7", x.help(1, 0, 100), 5);
        Check.tells(x, "as it was", x.helped(1, 0), 9998);
        Check.tells(x, "the other way", x.help(0, 1, 1), 1);
        x.lift(0, 1);
        Check.tells(x, "lifted", x.hour(1), 1);
        Check.tells(x, "9,999", x.helped(1, 0), 9999);
        Check.fails(x, "10,000", x.help(1, 0, 1), 7);
        x.dawn();
        x.lift(0, 1);
        Check.tells(x, "lifted", x.hour(1), 1);
        Check.tells(x, "9,999 at most", x.helped(1, 0), 9999);
        Check.tells(x, "due", x.house(0, 8), 9998);
    }

    @Says("so many times more (1 to 99): how often it was then (2; 5;")
    static void timesMoreFromOneToNinetyNine() {
        RoofGale x = Check.at(light(8));
        Check.tells(x, "once", x.help(0, 7, 1), 1);
        Check.tells(x, "99 times", x.help(0, 7, 99), 100);
        for (int wrong : new int[] {Integer.MIN_VALUE, -1, 0, 100, Integer.MAX_VALUE}) {
            Check.fails(x, wrong + " times", x.help(0, 7, wrong), 5);
        }
        Check.fails(x, "one and itself", x.help(7, 7, 1), 5);
        for (int wrong : new int[] {Integer.MIN_VALUE, -1, 8, Integer.MAX_VALUE}) {
            Check.fails(x, "house " + wrong, x.help(wrong, 0, 1), 2);
            Check.fails(x, "by " + wrong, x.help(0, wrong, 1), 2);
            Check.fails(x, "2 ahead of 5", x.help(wrong, wrong, 0), 2);
        }
        Check.tells(x, "as it was", x.helped(0, 7), 100);
    }
}
