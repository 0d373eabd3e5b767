/** Promises 18 to 26: lifting, the hour, the law, gale, dawn and help. */
public final class LiftTest {
    public static void main(String[] args) {
        takesAndWalk();
        next();
        lift();
        rest();
        hour();
        lawByTheMinute();
        gale();
        dawn();
        help();
        Check.end("LiftTest");
    }

    private static void takesAndWalk() {
        RoofGale x = Check.at("house a at 7 worth 1 pieces 1 weight 1;house b at 60 worth 1 pieces 1 weight 20 pegs 9;"
                + "gang g of a hands 40 pace 9;gang h of b hands 1 pace 0;gang i of a hands 29;");
        Check.tells(x, "1 at least", x.takes(0, 0), 1);
        Check.tells(x, "rounded up", x.takes(0, 1), 3);
        Check.tells(x, "the most", x.takes(1, 1), 116);
        Check.tells(x, "just", x.takes(2, 1), 4);
        Check.tells(x, "way", x.walk(0, 1), 477);
        Check.tells(x, "pace 0", x.walk(1, 0), 0);
        Check.tells(x, "pace 1", x.walk(2, 1), 53);
        Check.tells(x, "no way", x.walk(0, 0), 0);
        x.lift(0, 1);
        Check.tells(x, "from where it is", x.walk(0, 0), 477);
        Check.fails(x, "takes", x.takes(3, 0), 2);
        Check.fails(x, "takes", x.takes(0, 2), 2);
        Check.fails(x, "takes", x.takes(-1, 0), 2);
        Check.fails(x, "walk", x.walk(0, -1), 2);
        Check.fails(x, "walk", x.walk(3, 0), 2);
    }

    private static final String THREE = "house a at 5 worth 7 pieces 1 weight 1;house b at 8 worth 9 pieces 1 weight 1;house c at 2 worth 9 pieces 1 weight 1;"
            + "gang g of a hands 1;gang h of c hands 1;helped a by b 2;helped b by c 2;helped c by a 1;";

    private static void next() {
        int[][] first = {{1, 1}, {2, 2}, {0, 2}, {0, 0}};
        String[] laws = {"worth", "owed", "near", "told"};
        for (int law = 0; law < 4; law++) {
            RoofGale x = Check.at(THREE + "law " + laws[law] + ";");
            Check.tells(x, "first of g by " + laws[law], x.next(0), first[law][0]);
            Check.tells(x, "first of h by " + laws[law], x.next(1), first[law][1]);
        }
        RoofGale x = Check.at(THREE + "law near;");
        x.lift(1, 0);
        Check.tells(x, "one that another has is left out, of several the first", x.next(0), 1);
        Check.fails(x, "it has one", x.next(1), 9);
        Check.fails(x, "no gang", x.next(2), 2);
        Check.fails(x, "no gang", x.next(-1), 2);
        x.gale(99);
        Check.fails(x, "none to take", x.next(0), 8);
        Check.fails(x, "nor for the other", x.next(1), 8);
        RoofGale y = Check.at("house a at 5 worth 7 pieces 1 weight 1;gang g of a hands 4;gang h of a hands 1;");
        y.lift(0, 0);
        Check.fails(y, "9 ahead of 8", y.next(0), 9);
        Check.fails(y, "the other has it", y.next(1), 8);
        y.hour(1);
        Check.fails(y, "it is off", y.next(1), 8);
    }

    private static void lift() {
        RoofGale x = Check.at(THREE);
        Check.fails(x, "lift", x.lift(2, 0), 2);
        Check.fails(x, "lift", x.lift(0, 3), 2);
        Check.fails(x, "lift", x.lift(-1, 0), 2);
        Check.tells(x, "way", x.lift(0, 1), 3);
        Check.tells(x, "at", x.gang(0, 3), 8);
        x.hour(5);
        Check.tells(x, "2 of 4 minutes are done", x.gang(0, 5), 2);
        Check.tells(x, "the same again, begun anew, from where it is", x.lift(0, 1), 0);
        Check.tells(x, "begun anew", x.gang(0, 5), 4);
        Check.fails(x, "another has it", x.lift(1, 1), 9);
        Check.tells(x, "in place of what it has", x.lift(0, 2), 6);
        Check.tells(x, "free again", x.lift(1, 1), x.walk(1, 1) + 3);
        x.gale(99);
        Check.fails(x, "it fell", x.lift(0, 0), 9);
        RoofGale y = Check.at("house a at 5 worth 7 pieces 1 weight 1;gang g of a hands 4;");
        y.hour(1);
        Check.fails(y, "its roof is off", y.lift(0, 0), 9);
    }

    private static void rest() {
        RoofGale x = Check.at(THREE);
        Check.no(x, "rest", x.rest(2), 2);
        Check.no(x, "rest", x.rest(-1), 2);
        Check.no(x, "rest", x.rest(0), 8);
        x.lift(0, 1);
        Check.yes(x, "rest", x.rest(0));
        Check.fails(x, "nothing at hand", x.gang(0, 4), 8);
        Check.tells(x, "nothing left", x.gang(0, 5), 0);
        Check.tells(x, "where it is it stays", x.gang(0, 3), 8);
        Check.no(x, "rest again", x.rest(0), 8);
    }

    private static void hour() {
        RoofGale x = Check.at();
        Check.fails(x, "hour", x.hour(0), 5);
        Check.fails(x, "hour", x.hour(241), 5);
        Check.fails(x, "hour", x.hour(-1), 5);
        Check.tells(x, "9 minutes", x.hour(9), 1);
        Check.tells(x, "helped", x.helped(1, 0), 1);
        Check.fails(x, "none at hand until the next minute", x.gang(0, 4), 8);
        Check.tells(x, "a minute", x.hour(1), 0);
        Check.tells(x, "takes the next", x.gang(0, 4), 0);
        Check.tells(x, "3 of 4 and 3 minutes left", x.gang(0, 5), 6);
        Check.tells(x, "goes on", x.hour(6), 0);
        Check.tells(x, "a piece is off", x.house(0, 6), 1);
        Check.tells(x, "the next piece whole", x.gang(0, 5), 3);
        Check.tells(x, "the other is lifting still", x.gang(1, 4), 3);
        Check.tells(x, "off", x.hour(3), 1);
        Check.tells(x, "helped by itself not", x.house(0, 8), -2 + 1);
        Check.tells(x, "minute", x.many(4), 19);
        Check.tells(x, "all", x.hour(240), 2);
        Check.tells(x, "all off", x.many(6), 15);
        Check.tells(x, "dan by blu", x.helped(3, 2), 1);
        for (int i = 0; i < 40; i++) {
            Check.tells(x, "nothing left", x.hour(240), 0);
        }
        Check.tells(x, "minute", x.many(4), 9859);
        Check.fails(x, "above 9,999", x.hour(141), 7);
        Check.tells(x, "to 9,999", x.hour(140), 0);
        Check.fails(x, "5 ahead of 7", x.hour(241), 5);
        Check.fails(x, "above 9,999", x.hour(1), 7);
        x.dawn();
        Check.tells(x, "from 0 again", x.hour(1), 0);
        RoofGale y = new RoofGale();
        Check.tells(y, "no gangs", y.hour(240), 0);
        Check.tells(y, "time goes on", y.many(4), 240);
    }

    /** Who finishes ahead in the same minute may change whose turn it is by law for the next gang. */
    private static void lawByTheMinute() {
        String shore = "house a at 0 worth 1 pieces 1 weight 1;house b at 0 worth 1 pieces 2 weight 1;house c at 0 worth 1 pieces 9 weight 1;"
                + "house d at 0 worth 1 pieces 9 weight 1;gang g of c hands 2;gang h of d hands 4;law owed;";
        RoofGale x = Check.at(shore);
        x.lift(0, 0);
        x.lift(1, 1);
        Check.tells(x, "both", x.hour(2), 2);
        Check.tells(x, "c helped", x.house(2, 8), 1);
        Check.tells(x, "d helped", x.house(3, 8), 1);
        x.hour(1);
        Check.tells(x, "of several the first", x.gang(0, 4), 2);
        Check.tells(x, "the other one", x.gang(1, 4), 3);
        RoofGale y = Check.at("house a at 0 worth 1 pieces 1 weight 2;house b at 0 worth 1 pieces 1 weight 1;house c at 0 worth 1 pieces 9 weight 1;"
                + "house d at 0 worth 1 pieces 9 weight 1;gang g of d hands 4;gang h of c hands 4;law owed;");
        y.lift(0, 0);
        y.lift(1, 1);
        Check.tells(y, "h is done with b", y.hour(1), 1);
        Check.tells(y, "g is done with a, h takes", y.hour(1), 1);
        Check.tells(y, "the first of the two that helped", y.gang(1, 4), 2);
        RoofGale z = Check.at("house a at 0 worth 1 pieces 1 weight 2;house b at 0 worth 1 pieces 1 weight 1;house c at 0 worth 1 pieces 9 weight 1;"
                + "house d at 0 worth 1 pieces 9 weight 1;gang g of d hands 4;gang h of a hands 4;law owed;");
        z.lift(0, 0);
        z.lift(1, 1);
        z.hour(2);
        Check.tells(z, "d helped in this very minute", z.gang(1, 4), 3);
    }

    private static void gale() {
        RoofGale x = Check.at();
        Check.fails(x, "gale", x.gale(-1), 5);
        Check.fails(x, "gale", x.gale(100), 5);
        Check.tells(x, "not more than", x.gale(12), 0);
        x.lift(0, 2);
        x.lift(1, 1);
        Check.tells(x, "more than", x.gale(13), 1);
        Check.tells(x, "cid fell", x.many(5), 11);
        Check.fails(x, "its gang has none", x.gang(0, 4), 8);
        Check.tells(x, "nothing left", x.gang(0, 5), 0);
        Check.tells(x, "the other goes on", x.gang(1, 4), 1);
        Check.tells(x, "it fell already", x.gale(13), 0);
        x.hour(60);
        Check.tells(x, "roofs off stand", x.gale(99), 0);
        Check.tells(x, "three stand", x.many(5), 11);
        RoofGale y = Check.at("house a at 0 worth 1 pieces 2 weight 1;gang g of a hands 4;");
        y.hour(1);
        Check.tells(y, "on as long as a piece is", y.gale(12), 1);
        Check.tells(y, "0", y.gale(0), 0);
    }

    private static void dawn() {
        RoofGale x = Check.at("house a at 0 worth 1 pieces 2 weight 1;house b at 3 worth 1 pieces 3 weight 9;house c at 3 worth 1 pieces 3 weight 20 pegs 9;"
                + "gang g of a hands 4;gang h of b hands 36;");
        Check.tells(x, "none", x.dawn(), 0);
        x.lift(1, 1);
        x.hour(1);
        x.lift(0, 2);
        Check.tells(x, "partly off", x.house(0, 6), 1);
        Check.tells(x, "dawn", x.dawn(), 2);
        Check.tells(x, "wholly on", x.house(0, 6), 2);
        Check.tells(x, "wholly on", x.house(1, 6), 3);
        Check.tells(x, "minute", x.many(4), 0);
        Check.fails(x, "nothing at hand", x.gang(0, 4), 8);
        Check.tells(x, "where it is it stays", x.gang(0, 3), 3);
        x.lift(1, 1);
        x.hour(3);
        x.gale(13);
        Check.tells(x, "a fell", x.many(5), 6);
        Check.tells(x, "b is off", x.many(6), 2);
        Check.tells(x, "b alone", x.dawn(), 1);
        Check.tells(x, "a does not stand again", x.many(5), 6);
    }

    private static void help() {
        RoofGale x = Check.at();
        Check.fails(x, "2 ahead of 5", x.help(4, 4, 0), 2);
        Check.fails(x, "help", x.help(0, -1, 1), 2);
        Check.fails(x, "itself", x.help(1, 1, 1), 5);
        Check.fails(x, "0 times", x.help(1, 0, 0), 5);
        Check.fails(x, "100 times", x.help(1, 0, 100), 5);
        Check.tells(x, "more", x.help(0, 1, 4), 7);
        Check.tells(x, "told", x.helped(0, 1), 7);
        Check.tells(x, "due", x.house(1, 8), 7);
        for (int i = 1; i <= 101; i++) {
            Check.tells(x, "99 more", x.help(1, 0, 99), 99 * i);
        }
        Check.fails(x, "above 9,999", x.help(1, 0, 1), 7);
        Check.tells(x, "bob is lifted by red", x.hour(9), 1);
        Check.tells(x, "9,999 at most", x.helped(1, 0), 9999);
    }
}
