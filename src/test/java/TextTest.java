/** Promises 9 to 17: the tape, the shore's text, its faults, and what is told of a shore. */
public final class TextTest {
    private static final String H = " at 1 worth 1 pieces 1 weight 1;";
    private static final String TWO = "house a" + H + "house b" + H;

    public static void main(String[] args) {
        tape();
        shoreIsTaken();
        tokens();
        lexicalFaults();
        placeFaults();
        nameFaults();
        numberFaults();
        lawAndSelfFaults();
        tooManyFaults();
        fault();
        manyAndHouse();
        gangWindHelped();
        Check.end("TextTest");
    }

    private static void tape() {
        RoofGale x = new RoofGale();
        for (int i = 1; i <= 45; i++) {
            Check.due("feed", x.feed(0x20202020, 0x20202020, 0x20202020, 0x20202020, 0x20202020), 20 * i);
        }
        Check.due("feed above 900", x.feed(0, 0, 0, 0, 0), -1);
        Check.due("feed has no status", x.status(), 0);
        Check.fails(x, "901 bytes", x.shore(901), 5);
        Check.fails(x, "-1 bytes", x.shore(-1), 5);
        Check.fails(x, "301 bytes of years", x.years(301), 5);
        Check.tells(x, "900 blanks", x.shore(900), 0);
        Check.due("the tape is empty then", x.feed(0, 0, 0, 0, 0), 20);
        Check.fails(x, "more than the tape has", x.shore(21), 5);
        Check.fails(x, "more than the tape has", x.years(21), 5);
        Check.due("5 leaves the tape", x.feed(0, 0, 0, 0, 0), 40);
        Check.fails(x, "a fault", x.shore(40), 10);
        Check.due("10 empties the tape", x.feed(0, 0, 0, 0, 0), 20);
        Check.tells(x, "nothing of the tape", x.shore(0), 0);
        Check.due("all of the tape is gone", x.feed(0, 0, 0, 0, 0), 20);
        Check.fails(x, "a fault", x.years(1), 10);
        Check.due("10 empties the tape", x.feed(0x73746f70, 0x3b202020, 0, 0, 0), 20);
        Check.tells(x, "the highest byte first", x.years(5), 1);
    }

    private static void shoreIsTaken() {
        RoofGale x = Check.at();
        x.hour(200);
        x.gale(99);
        Check.years(x, "stop;");
        Check.tells(x, "shore", Check.shore(x, Check.SHORE), 4);
        Check.tells(x, "all stand", x.many(5), 15);
        Check.tells(x, "all on", x.many(6), 0);
        Check.tells(x, "minute 0", x.many(4), 0);
        Check.tells(x, "a gang at its house", x.gang(0, 3), 0);
        Check.tells(x, "debts as told", x.helped(1, 0), 0);
        Check.fails(x, "no years", x.live(0), 8);
        Check.tells(x, "an empty shore", Check.shore(x, " \n "), 0);
        Check.tells(x, "no gangs", x.many(1), 0);
        Check.tells(x, "no winds", x.many(2), 0);
        Check.tells(x, "law told", x.many(3), 3);
    }

    private static void tokens() {
        RoofGale x = new RoofGale();
        Check.tells(x, "without blanks", Check.shore(x, "house a at0007worth 1pieces\n2weight 3long5pegs 6;law near;"), 1);
        Check.tells(x, "at", x.house(0, 0), 7);
        Check.tells(x, "pieces", x.house(0, 2), 2);
        Check.tells(x, "long", x.house(0, 4), 5);
        Check.tells(x, "pegs", x.house(0, 5), 6);
        Check.tells(x, "a name of 8 letters", Check.shore(x, "house abcdefgh" + H), 1);
        Check.tells(x, "names that words begin with", Check.shore(x, "house hous" + H + "house houses" + H), 2);
        String[] words = "house at worth pieces weight long pegs gang hands pace helped by wind of law owed near told hour gale dawn rest lift with when off stands loop end stop"
                .split(" ");
        for (String word : words) {
            Check.shoreFault("house " + word + H, 2, 6);
        }
        Check.due("words", words.length, 30);
    }

    private static void lexicalFaults() {
        Check.shoreFault("House a" + H, 1, 0);
        Check.shoreFault("house\ta" + H, 1, 5);
        Check.shoreFault("house a at 12345", 1, 11);
        Check.shoreFault("house a at 00001", 1, 11);
        Check.shoreFault("house a 12345", 1, 8);
        Check.shoreFault("house a at 1 worth 1 pieces 1 weight 1,", 1, 38);
        Check.shoreFault("house a\u00e1", 1, 7);
        Check.shoreFault("\u0000", 1, 0);
        Check.shoreFault("  -", 1, 2);
        Check.shoreFault("law :", 1, 4);
        Check.shoreFault("helped a!", 3, 7);
        Check.shoreFault("go !", 2, 0);
        Check.shoreFault("12345", 1, 0);
        Check.shoreFault("1234", 2, 0);
    }

    private static void placeFaults() {
        Check.shoreFault("go;", 2, 0);
        Check.shoreFault(";", 2, 0);
        Check.shoreFault("<", 2, 0);
        Check.shoreFault("stop;", 2, 0);
        Check.shoreFault("house", 2, 5);
        Check.shoreFault("house  ", 2, 7);
        Check.shoreFault("house a at 1 worth 1 pieces 1 weight 1", 2, 38);
        Check.shoreFault("house a at 1 worth 1 pieces 1 weight 1 \n", 2, 40);
        Check.shoreFault("house abcdefghi" + H, 2, 6);
        Check.shoreFault("house 1", 2, 6);
        Check.shoreFault("house a worth 1", 2, 8);
        Check.shoreFault("house a at b", 2, 11);
        Check.shoreFault("house a at 1 worth 1 pieces 1 weight 1 pegs 1 long 1;", 2, 46);
        Check.shoreFault("house a at 1 worth 1 pieces 1 weight 1 long 1 long 1;", 2, 46);
        Check.shoreFault("house a at 1 worth 1 pieces 1 weight 1 pegs 1 pegs 1;", 2, 46);
        Check.shoreFault(TWO + "gang g a", 2, TWO.length() + 7);
        Check.shoreFault(TWO + "gang g of a hands 1 pace ;", 2, TWO.length() + 25);
        Check.shoreFault(TWO + "gang g of a hands 1 2;", 2, TWO.length() + 20);
        Check.shoreFault(TWO + "helped a b 1;", 2, TWO.length() + 9);
        Check.shoreFault(TWO + "helped a by b;", 2, TWO.length() + 13);
        Check.shoreFault(TWO + "helped a by abcdefghi 1;", 2, TWO.length() + 12);
        Check.shoreFault("wind w 1 2;", 2, 9);
        Check.shoreFault("wind w of 2;", 2, 7);
        Check.shoreFault("law;", 2, 3);
        Check.shoreFault("law a;", 2, 4);
        Check.shoreFault("law house;", 2, 4);
        Check.shoreFault("law", 2, 3);
    }

    private static void nameFaults() {
        int n = TWO.length();
        Check.shoreFault(TWO + "house a" + H, 3, n + 6);
        Check.shoreFault(TWO + "gang a of b hands 1;", 3, n + 5);
        Check.shoreFault(TWO + "wind b 1 of 1;", 3, n + 5);
        Check.shoreFault(TWO + "gang g of c hands 1;", 3, n + 10);
        Check.shoreFault(TWO + "gang g of g hands 1;", 3, n + 10);
        Check.shoreFault(TWO + "gang g of a hands 1;gang h of g hands 1;", 3, n + 30);
        Check.shoreFault(TWO + "gang g of a hands 1;gang g of a hands 1;", 3, n + 25);
        Check.shoreFault(TWO + "wind w 1 of 1;house w" + H, 3, n + 20);
        Check.shoreFault(TWO + "wind w 1 of 1;wind w 2 of 1;", 3, n + 19);
        Check.shoreFault(TWO + "wind w 1 of 1;helped w by a 1;", 3, n + 21);
        Check.shoreFault(TWO + "helped a by c 1;", 3, n + 12);
        Check.shoreFault(TWO + "helped c by c 1;", 3, n + 7);
        Check.shoreFault("helped a by b 1;" + TWO, 3, 7);
    }

    private static void numberFaults() {
        Check.shoreFault("house a at 61", 4, 11);
        Check.shoreFault("house a at 1 worth 1000", 4, 19);
        Check.shoreFault("house a at 1 worth 1 pieces 0", 4, 28);
        Check.shoreFault("house a at 1 worth 1 pieces 10", 4, 28);
        Check.shoreFault("house a at 1 worth 1 pieces 1 weight 0", 4, 37);
        Check.shoreFault("house a at 1 worth 1 pieces 1 weight 21", 4, 37);
        Check.shoreFault("house a at 1 worth 1 pieces 1 weight 1 long 0", 4, 44);
        Check.shoreFault("house a at 1 worth 1 pieces 1 weight 1 long 21", 4, 44);
        Check.shoreFault("house a at 1 worth 1 pieces 1 weight 1 pegs 10", 4, 44);
        Check.shoreFault("house a" + H + "gang g of a hands 0", 4, 57);
        Check.shoreFault("house a" + H + "gang g of a hands 41", 4, 57);
        Check.shoreFault("house a" + H + "gang g of a hands 1 pace 10", 4, 64);
        Check.shoreFault(TWO + "helped a by b 100;", 4, TWO.length() + 14);
        Check.shoreFault("wind w 100", 4, 7);
        Check.shoreFault("wind w 99 of 0", 4, 13);
        Check.shoreFault("wind w 99 of 100", 4, 13);
        RoofGale x = new RoofGale();
        Check.tells(x, "the most of all", Check.shore(x, "house a at 60 worth 999 pieces 9 weight 20 long 20 pegs 9;house b at 0 worth 0 pieces 1 weight 1 long 1 pegs 0;"
                + "gang g of a hands 40 pace 9;gang h of b hands 1 pace 0;helped a by b 99;helped b by a 0;wind w 99 of 99;wind v 0 of 1;"), 2);
    }

    private static void lawAndSelfFaults() {
        Check.shoreFault("law near;law near;", 5, 9);
        Check.shoreFault("law told; law !", 5, 10);
        Check.shoreFault(TWO + "helped a by a 1;", 5, TWO.length() + 12);
        Check.shoreFault(TWO + "helped b by b 100;", 5, TWO.length() + 12);
        RoofGale x = new RoofGale();
        String[] laws = {"worth", "owed", "near", "told"};
        for (int law = 0; law < 4; law++) {
            Check.tells(x, "law", Check.shore(x, "law " + laws[law] + " ;"), 0);
            Check.tells(x, "law", x.many(3), law);
        }
    }

    private static void tooManyFaults() {
        StringBuilder houses = new StringBuilder();
        for (char c = 'a'; c < 'i'; c++) {
            houses.append("house ").append(c).append(H);
        }
        Check.tells(Check.at(houses.toString()), "8 houses", Check.at(houses.toString()).many(0), 8);
        Check.shoreFault(houses + "house a" + H, 6, houses.length());
        StringBuilder gangs = new StringBuilder("house a" + H);
        for (char c = 'p'; c < 't'; c++) {
            gangs.append("gang ").append(c).append(" of a hands 1;");
        }
        Check.tells(Check.at(gangs.toString()), "4 gangs", Check.at(gangs.toString()).many(1), 4);
        Check.shoreFault(gangs + "gang", 6, gangs.length());
        StringBuilder winds = new StringBuilder();
        for (char c = 'p'; c < 'v'; c++) {
            winds.append("wind ").append(c).append(" 1 of 1;");
        }
        Check.tells(Check.at(winds.toString()), "6 winds", Check.at(winds.toString()).many(2), 6);
        Check.shoreFault(winds + "wind !", 6, winds.length());
    }

    private static void fault() {
        RoofGale x = new RoofGale();
        x.shore(1);
        Check.due("5 tells no fault", x.fault(0), -1);
        Check.shore(x, "go;");
        Check.due("fault", x.fault(0), 2);
        Check.due("place", x.fault(1), 0);
        Check.due("others", x.fault(2), -1);
        Check.due("others", x.fault(-1), -1);
        x.shore(99);
        Check.due("5 leaves the fault", x.fault(0), 2);
        Check.years(x, " stop; 1");
        Check.due("fault of years", x.fault(0), 2);
        Check.due("place in years", x.fault(1), 7);
        x.years(0);
        Check.due("no fault", x.fault(0), 0);
        Check.due("no place", x.fault(1), -1);
    }

    private static void manyAndHouse() {
        RoofGale x = Check.at();
        int[] many = {4, 2, 3, 0, 0, 15, 0, 750, 0, 10};
        for (int what = 0; what < many.length; what++) {
            Check.tells(x, "many " + what, x.many(what), many[what]);
        }
        Check.fails(x, "many", x.many(-1), 5);
        Check.fails(x, "many", x.many(10), 5);
        int[] bob = {4, 300, 1, 9, 6, 1, 1, 23, 3};
        for (int what = 0; what < bob.length; what++) {
            Check.tells(x, "house " + what, x.house(1, what), bob[what]);
        }
        Check.tells(x, "long without", x.house(0, 4), 4);
        Check.tells(x, "pegs without", x.house(0, 5), 0);
        Check.tells(x, "due -1", x.house(2, 8), -1);
        Check.fails(x, "2 ahead of 5", x.house(4, 9), 2);
        Check.fails(x, "house -1", x.house(-1, 0), 2);
        Check.fails(x, "what 9", x.house(0, 9), 5);
        Check.fails(x, "what -1", x.house(0, -1), 5);
        x.hour(15);
        x.gale(30);
        int[] then = {4, 2, 3, 0, 15, 10, 2, 600, 150, 10};
        for (int what = 0; what < then.length; what++) {
            Check.tells(x, "then many " + what, x.many(what), then[what]);
        }
        Check.tells(x, "pieces that are on", x.house(1, 6), 0);
        Check.tells(x, "pieces of the roof", x.house(1, 2), 1);
        Check.tells(x, "with its roof on", x.house(1, 7), 23);
    }

    private static void gangWindHelped() {
        RoofGale x = Check.at();
        int[] blu = {2, 4, 2, 10};
        for (int what = 0; what < blu.length; what++) {
            Check.tells(x, "gang " + what, x.gang(1, what), blu[what]);
        }
        Check.tells(x, "pace without", x.gang(0, 2), 1);
        Check.fails(x, "none at hand", x.gang(0, 4), 8);
        Check.tells(x, "nothing left", x.gang(0, 5), 0);
        x.lift(0, 1);
        Check.tells(x, "at hand", x.gang(0, 4), 1);
        Check.tells(x, "way and piece, not begun", x.gang(0, 5), 9);
        Check.tells(x, "at that place", x.gang(0, 3), 4);
        x.hour(6);
        Check.tells(x, "way is done, piece begun", x.gang(0, 5), 3);
        Check.fails(x, "gang", x.gang(2, 9), 2);
        Check.fails(x, "gang", x.gang(-1, 0), 2);
        Check.fails(x, "gang", x.gang(0, 6), 5);
        Check.fails(x, "gang", x.gang(0, -1), 5);
        Check.tells(x, "wind", x.wind(2, 0), 60);
        Check.tells(x, "wind", x.wind(1, 1), 5);
        Check.fails(x, "wind", x.wind(3, 2), 2);
        Check.fails(x, "wind", x.wind(-1, 0), 2);
        Check.fails(x, "wind", x.wind(0, 2), 5);
        Check.fails(x, "wind", x.wind(0, -1), 5);
        RoofGale y = Check.at(TWO + "helped a by b 9;helped b by a 2;helped a by b 4;");
        Check.tells(y, "the latest", y.helped(0, 1), 4);
        Check.tells(y, "the other way", y.helped(1, 0), 2);
        Check.fails(y, "2 ahead of 5", y.helped(2, 2), 2);
        Check.fails(y, "helped", y.helped(0, 2), 2);
        Check.fails(y, "helped", y.helped(-1, 0), 2);
        Check.fails(y, "helped", y.helped(1, 1), 5);
    }
}
