import java.io.IOException;
import java.util.function.ToIntFunction;

/** The bounds of the tape and of a shore's text: its bytes, tokens, names, numbers, parts, and each FAULT with its place. */
public final class BoundsShoreTest {
    private static final String H = " at 1 worth 1 pieces 1 weight 1;";
    private static final String TWO = "house a" + H + "house b" + H;
    private static final String NAMES = "abcdefghijklmnopq";
    private static final String[] WORDS = ("house at worth pieces weight long pegs gang hands pace helped by wind of law owed near told hour gale dawn rest lift "
            + "with when off stands loop end stop").split(" ");

    public static void main(String[] args) throws IOException, ReflectiveOperationException {
        Sentences.run(BoundsShoreTest.class);
    }

    private static String houses(int many) {
        StringBuilder text = new StringBuilder();
        for (int h = 0; h < many; h++) {
            text.append("house ").append(NAMES.charAt(h)).append(H);
        }
        return text.toString();
    }

    private static String gangs(int many) {
        StringBuilder text = new StringBuilder("house a" + H);
        for (int g = 0; g < many; g++) {
            text.append("gang ").append(NAMES.charAt(8 + g)).append(" of a hands 1;");
        }
        return text.toString();
    }

    private static String winds(int many) {
        StringBuilder text = new StringBuilder();
        for (int w = 0; w < many; w++) {
            text.append("wind ").append(NAMES.charAt(9 + w)).append(" 1 of 1;");
        }
        return text.toString();
    }

    private static void taken(String text, int houses) {
        RoofGale x = new RoofGale();
        Check.tells(x, text, Check.shore(x, text), houses);
        Check.due("no fault in " + text, x.fault(0), 0);
    }

    // ---- the tape

    @Says("Twenty bytes come behind those on the tape, the highest of each int first: how many it has; NONE if there would be more than 900.")
    static void theTapeTakesNineHundredBytes() {
        RoofGale x = new RoofGale();
        for (int fed = 20; fed <= 900; fed += 20) {
            Check.due("fed", x.feed(0x20202020, 0x20202020, 0x20202020, 0x20202020, 0x20202020), fed);
        }
        for (int more : new int[] {0, -1, Integer.MIN_VALUE, Integer.MAX_VALUE}) {
            Check.due("more than 900", x.feed(more, more, more, more, more), -1);
        }
        Check.tells(x, "the 900 as they were", x.shore(900), 0);
        Check.due("empty then", x.feed(0, 0, 0, 0, 0), 20);
    }

    /** Each of the twenty bytes stands once where the first FAULT is: its place tells where it came to lie. */
    @Says("Twenty bytes come behind those on the tape, the highest of each int first")
    static void theHighestByteOfEachIntIsFirst() {
        for (int wrong : new int[] {0, 1, 127, 128, 255}) {
            for (int place = 0; place < 20; place++) {
                int[] five = {0x20202020, 0x20202020, 0x20202020, 0x20202020, 0x20202020};
                int shift = 24 - place % 4 * 8;
                five[place / 4] = five[place / 4] & ~(255 << shift) | wrong << shift;
                RoofGale x = new RoofGale();
                x.feed(0x20202020, 0x20202020, 0x20202020, 0x20202020, 0x20202020);
                x.feed(five[0], five[1], five[2], five[3], five[4]);
                Check.tells(x, "nothing ahead of byte " + place, x.shore(20 + place), 0);
                x.feed(0x20202020, 0x20202020, 0x20202020, 0x20202020, 0x20202020);
                x.feed(five[0], five[1], five[2], five[3], five[4]);
                Check.fails(x, "byte " + place, x.shore(21 + place), 10);
                Check.due("fault", x.fault(0), 1);
                Check.due("place", x.fault(1), 20 + place);
            }
        }
    }

    @Says("The first n bytes of the tape (which is empty then, but for 5) are the SHORE: how many HOUSES (5; 10: the old one stays).")
    static void theFirstBytesOfTheTapeAreTheShore() {
        RoofGale x = new RoofGale();
        int bytes = Check.feed(x, TWO + "house ");
        Check.tells(x, "the first alone", x.shore(TWO.length()), 2);
        Check.fails(x, "the tape is empty", x.shore(1), 5);
        Check.tells(x, "nothing of it", x.shore(0), 0);
        Check.feed(x, TWO + "house ");
        Check.fails(x, "a byte more", x.shore(TWO.length() + 1), 10);
        Check.fails(x, "the tape is empty", x.shore(1), 5);
        Check.due("the fault is told still", x.fault(0), 2);
        Check.feed(x, TWO);
        int fed = (TWO.length() + 19) / 20 * 20;
        for (int wrong : new int[] {-1, fed + 1, 901, Integer.MIN_VALUE, Integer.MAX_VALUE}) {
            Check.fails(x, wrong + " bytes", x.shore(wrong), 5);
        }
        Check.tells(x, "5 leaves the tape, all of it is taken", x.shore(fed), 2);
        Check.due("bytes of the text", bytes, TWO.length() + 6);
    }

    @Says("The first n bytes of the tape (which is empty then, but for 5) are the SHORE: how many HOUSES (5; 10: the old one stays).")
    static void theOldShoreStaysBehindAFault() {
        RoofGale x = Check.at(TWO + "gang g of b hands 1;wind w 99 of 1;law near;");
        Check.years(x, "stop;");
        x.hour(4);
        Check.fails(x, "a fault behind a whole part", Check.shore(x, "house z at 60 worth 9 pieces 9 weight 9;wind"), 10);
        int[] many = {2, 1, 1, 2, 4, 3, 1, 2, 0, 1};
        for (int what = 0; what < many.length; what++) {
            Check.tells(x, "many " + what, x.many(what), many[what]);
        }
        Check.tells(x, "its houses", x.house(1, 0), 1);
        Check.tells(x, "its years", x.live(0), 1);
        Check.tells(x, "its names", Check.years(x, "lift b with g;"), 1);
    }

    @Says("A SHORE is a TEXT of at most 900 bytes.")
    static void aShoreHasNineHundredBytes() {
        StringBuilder text = new StringBuilder("house a at 1 worth 1 pieces 1 weight 1");
        while (text.length() < 899) {
            text.append(text.length() % 2 == 0 ? ' ' : '\n');
        }
        RoofGale x = new RoofGale();
        Check.tells(x, "the last of 900 bytes counts", Check.shore(x, text + ";"), 1);
        Check.feed(x, text + ";");
        Check.fails(x, "899 of them", x.shore(899), 10);
        Check.due("the end cannot stand there", x.fault(0), 2);
        Check.due("the text's length", x.fault(1), 899);
        Check.feed(x, text + ";");
        Check.due("more than 900", x.feed(0, 0, 0, 0, 0), -1);
        Check.fails(x, "901", x.shore(901), 5);
        Check.tells(x, "900", x.shore(900), 1);
        Check.tells(x, "0", x.shore(0), 0);
    }

    @Says("Of the latest of these with STATUS 0 or 10, what 0: the FAULT (0 without one), 1: its place (NONE without). NONE for others, and ahead of any.")
    static void faultIsOfTheLatestText() {
        RoofGale x = new RoofGale();
        faultIs(x, "ahead of any", -1, -1);
        x.shore(1);
        x.years(1);
        faultIs(x, "5 is none of these", -1, -1);
        Check.shore(x, "law !");
        faultIs(x, "of a shore", 1, 4);
        x.years(1);
        x.shore(1);
        faultIs(x, "5 leaves it", 1, 4);
        Check.years(x, "");
        faultIs(x, "without one", 0, -1);
        Check.years(x, "hour 0;");
        faultIs(x, "of years", 4, 5);
        Check.shore(x, "");
        faultIs(x, "without one", 0, -1);
        for (int what : new int[] {-1, 2, Integer.MIN_VALUE, Integer.MAX_VALUE}) {
            Check.due("others", x.fault(what), -1);
        }
    }

    private static void faultIs(RoofGale x, String what, int kind, int place) {
        int status = x.status();
        Check.due("fault " + what, x.fault(0), kind);
        Check.due("place " + what, x.fault(1), place);
        Check.due("fault() has no status", x.status(), status);
    }

    // ---- tokens

    /** Every byte alone: blanks are nothing, letters, digits and signs can't stand there, no other begins a TOKEN. */
    @Says("TOKENS, as long as they go, between them blanks (10, 32): WORDS (small letters), NUMBERS (1 to 4 digits), SIGNS ; < > =")
    static void everyByteAlone() {
        for (int b = 0; b < 256; b++) {
            String text = String.valueOf((char) b);
            boolean token = b >= 'a' && b <= 'z' || b >= '0' && b <= '9' || b == ';' || b == '<' || b == '>' || b == '=';
            if (b == 10 || b == 32) {
                taken(text, 0);
            } else {
                Check.shoreFault(text, token ? 2 : 1, 0);
                Check.shoreFault("  " + text, token ? 2 : 1, 2);
            }
        }
    }

    @Says("TOKENS, as long as they go, between them blanks (10, 32): WORDS (small letters), NUMBERS (1 to 4 digits), SIGNS ; < > =")
    static void tokensGoAsLongAsTheyGo() {
        RoofGale x = new RoofGale();
        Check.tells(x, "without blanks where they end", Check.shore(x, "house a at0060worth0pieces9weight1;house b at 1worth 1pieces 1weight 1 ;"), 2);
        Check.tells(x, "a number of 4 digits", x.house(0, 0), 60);
        Check.tells(x, "blanks of both kinds", Check.shore(x, "\n\n house\na\nat\n1 worth \n 1 pieces 1 weight 1\n;\n\n"), 1);
        Check.shoreFault("housea at 1", 2, 0);
        Check.shoreFault("house a at 1 2 worth", 2, 13);
        Check.shoreFault("house a at 0 060 worth", 2, 13);
        Check.shoreFault("house a at 00600 worth", 1, 11);
        Check.shoreFault("house a at 9999 worth", 4, 11);
    }

    @Says("SHORE: {PART}. PART: house NAME at NUMBER worth NUMBER pieces NUMBER weight NUMBER [long NUMBER] [pegs NUMBER] ; "
            + "or gang NAME of NAME hands NUMBER [pace NUMBER] ; or helped NAME by NAME NUMBER ; or wind NAME NUMBER of NUMBER ; or law LAW ;")
    static void everyPartCutAndBrokenAtEachToken() {
        String[] parts = {"house c at 1 worth 2 pieces 3 weight 4 ;", "house c at 1 worth 2 pieces 3 weight 4 long 5 ;",
            "house c at 1 worth 2 pieces 3 weight 4 pegs 6 ;", "house c at 1 worth 2 pieces 3 weight 4 long 5 pegs 6 ;", "gang g of a hands 3 ;",
            "gang g of a hands 3 pace 2 ;", "helped a by b 3 ;", "wind w 3 of 4 ;", "law near ;"};
        for (String part : parts) {
            String[] tokens = part.split(" ");
            RoofGale x = new RoofGale();
            Check.tells(x, part, Check.shore(x, TWO + part), part.startsWith("house") ? 3 : 2);
            StringBuilder ahead = new StringBuilder(TWO);
            for (int i = 0; i < tokens.length; i++) {
                if (i > 0) {
                    Check.shoreFault(ahead.toString(), 2, ahead.length());
                    Check.shoreFault(ahead + " \n", 2, ahead.length() + 2);
                }
                Check.shoreFault(ahead + "stop", 2, ahead.length());
                Check.shoreFault(ahead + "=", 2, ahead.length());
                Check.shoreFault(ahead + "?", 1, ahead.length());
                Check.shoreFault(ahead + "12345", 1, ahead.length());
                boolean number = Character.isDigit(tokens[i].charAt(0));
                Check.shoreFault(ahead + (number ? "law" : "1"), 2, ahead.length());
                boolean perhaps = tokens[i].equals("long") || tokens[i].equals("pegs") || tokens[i].equals("pace") || tokens[i].equals(";");
                Check.shoreFault(ahead + (perhaps ? ";!" : ";"), perhaps ? 1 : 2, ahead.length() + (perhaps ? 1 : 0));
                ahead.append(tokens[i]).append(' ');
            }
        }
    }

    @Says("({ } any number of times, [ ] perhaps.)")
    static void noPartAndManyParts() {
        RoofGale x = new RoofGale();
        Check.tells(x, "no part", Check.shore(x, ""), 0);
        Check.tells(x, "blanks alone", Check.shore(x, "\n \n"), 0);
        StringBuilder many = new StringBuilder(TWO);
        int told = 0;
        while (many.length() + 16 <= 900) {
            told = told % 99 + 1;
            many.append("helped a by b ").append(told).append(';');
        }
        Check.tells(x, "as many as there is room for", Check.shore(x, many.toString()), 2);
        Check.tells(x, "the latest", x.helped(0, 1), told);
    }

    @Says("LAW: worth, or owed, or near, or told.")
    static void thereAreFourLaws() {
        String[] laws = {"worth", "owed", "near", "told"};
        for (int law = 0; law < 4; law++) {
            RoofGale x = Check.at("law " + laws[law] + ";");
            Check.tells(x, laws[law], x.many(3), law);
        }
        for (String word : WORDS) {
            boolean law = word.equals("worth") || word.equals("owed") || word.equals("near") || word.equals("told");
            Check.shoreFault("law " + word + (law ? " law" : ";"), 2, law ? 5 + word.length() : 4);
        }
        Check.shoreFault("law a;", 2, 4);
        Check.shoreFault("law ;", 2, 4);
    }

    @Says("LAW (told without): whose roof is lifted first.")
    static void withoutALawItIsTold() {
        RoofGale none = Check.at("");
        Check.tells(none, "no law", none.many(3), 3);
        RoofGale x = Check.at("law near;" + TWO);
        Check.tells(x, "near", x.many(3), 2);
        Check.shore(x, TWO);
        Check.tells(x, "the law ahead is gone", x.many(3), 3);
    }

    // ---- names

    @Says({"NAME: a WORD of 1 to 8 letters that is none of house, at, worth, pieces, weight, long, pegs, gang, hands, pace, helped, by, wind, of, law, owed, near, "
            + "told, hour, gale, dawn, rest, lift, with, when, off, stands, loop, end, stop."})
    static void aNameHasOneToEightLetters() {
        for (String name : new String[] {"a", "z", "ab", "zzzzzzz", "abcdefgh", "aaaaaaaa", "zzzzzzzz"}) {
            RoofGale x = new RoofGale();
            Check.tells(x, "house " + name, Check.shore(x, "house " + name + H), 1);
            Check.tells(x, "gang " + name, Check.shore(x, "house q" + H + "gang " + name + " of q hands 1;"), 1);
            Check.tells(x, "wind " + name, Check.shore(x, "wind " + name + " 1 of 1;"), 0);
            Check.tells(x, "helped", Check.shore(x, "house q" + H + "house " + name + H + "helped " + name + " by q 1;helped q by " + name + " 2;"), 2);
        }
        for (String name : new String[] {"abcdefghi", "aaaaaaaaa", "zzzzzzzzz", "abcdefghijklmnopqrstuvwxyz", "housesatsea", "a".repeat(400)}) {
            noName(name, 2);
        }
        Check.shoreFault("house" + H, 2, 6);
        taken("house abcdefgh" + H + "house abcdefgi" + H, 2);
        taken("house abcdefgh" + H + "house bbcdefgh" + H, 2);
        taken("house a" + H + "house aa" + H, 2);
    }

    /** Where a NAME must stand: of a new house, gang, wind, and of one that is there. */
    private static void noName(String word, int fault) {
        int n = TWO.length();
        Check.shoreFault("house " + word + H, fault, 6);
        Check.shoreFault(TWO + "gang " + word + " of a hands 1;", fault, n + 5);
        Check.shoreFault(TWO + "gang g of " + word + " hands 1;", fault, n + 10);
        Check.shoreFault(TWO + "helped " + word + " by a 1;", fault, n + 7);
        Check.shoreFault(TWO + "helped a by " + word + " 1;", fault, n + 12);
        Check.shoreFault("wind " + word + " 1 of 1;", fault, 5);
    }

    @Says("none of house, at, worth, pieces, weight, long, pegs, gang, hands, pace, helped, by, wind, of, law, owed, near, told, hour, gale, dawn, rest, lift, with, "
            + "when, off, stands, loop, end, stop.")
    static void noWordOfTheLanguageIsAName() {
        Check.due("words", WORDS.length, 30);
        for (String word : WORDS) {
            noName(word, 2);
            String more = word + "x";
            RoofGale x = new RoofGale();
            Check.tells(x, "a letter more than " + word, Check.shore(x, "house " + more + H), 1);
            Check.tells(x, "a letter less than " + word, Check.shore(x, "house q" + word.substring(1) + H), 1);
        }
    }

    @Says("One NAME is of one thing alone.")
    static void oneNameIsOfOneThing() {
        String[] things = {"house c" + H, "gang c of a hands 1;", "wind c 1 of 1;"};
        int[] places = {6, 5, 5};
        for (int first = 0; first < 3; first++) {
            for (int second = 0; second < 3; second++) {
                String ahead = TWO + things[first];
                Check.shoreFault(ahead + things[second], 3, ahead.length() + places[second]);
            }
        }
        RoofGale x = Check.at(TWO + things[1]);
        Check.tells(x, "free in the next text", Check.shore(x, TWO + things[2]), 2);
    }

    // ---- numbers

    /** A NUMBER that stands between two pieces of text: every value that may be is taken, none beside them. */
    private static void number(String ahead, String behind, int least, int most, ToIntFunction<RoofGale> told) {
        for (int n = least; n <= most; n++) {
            RoofGale x = Check.at(ahead + n + behind);
            Check.tells(x, ahead + n, told.applyAsInt(x), n);
        }
        RoofGale x = Check.at(ahead + String.format("%04d", most) + behind);
        Check.tells(x, ahead + "in 4 digits", told.applyAsInt(x), most);
        Check.shoreFault(ahead + (most + 1) + behind, 4, ahead.length());
        Check.shoreFault(ahead + "9999" + behind, 4, ahead.length());
        Check.shoreFault(ahead + "10000" + behind, 1, ahead.length());
        Check.shoreFault(ahead + String.format("%05d", least) + behind, 1, ahead.length());
        Check.shoreFault(ahead + "4294967297" + behind, 1, ahead.length());
        Check.shoreFault(ahead + "-1" + behind, 1, ahead.length());
        if (least > 0) {
            Check.shoreFault(ahead + (least - 1) + behind, 4, ahead.length());
        }
    }

    @Says({"HOUSES, at most 8: AT a place on the shore (0 to 60), WORTH (0 to 999), a roof of so many PIECES (1 to 9), each of a WEIGHT (1 to 20), "
            + "so LONG on the ground (1 to 20; 4 without), PEGS (0 to 9; 0 without).",
        "Of a HOUSE, what 0: AT, 1: WORTH, 2: PIECES, 3: WEIGHT, 4: LONG, 5: PEGS, 6: PIECES that are ON, "
            + "7: the least strength by which it would fall with its roof ON, 8: DUE (STATUS tells NONE) (2; 5)."})
    static void theNumbersOfAHouse() {
        number("house a at ", " worth 1 pieces 1 weight 1;", 0, 60, x -> x.house(0, 0));
        number("house a at 1 worth ", " pieces 1 weight 1;", 0, 999, x -> x.house(0, 1));
        number("house a at 1 worth 1 pieces ", " weight 1;", 1, 9, x -> x.house(0, 2));
        number("house a at 1 worth 1 pieces ", " weight 1;", 1, 9, x -> x.house(0, 6));
        number("house a at 1 worth 1 pieces 1 weight ", ";", 1, 20, x -> x.house(0, 3));
        number("house a at 1 worth 1 pieces 1 weight ", ";", 1, 20, x -> x.house(0, 7) - 11);
        number("house a at 1 worth 1 pieces 1 weight 1 long ", ";", 1, 20, x -> x.house(0, 4));
        number("house a at 1 worth 1 pieces 1 weight 1 long 1 pegs ", ";", 0, 9, x -> x.house(0, 5));
        number("house a at 1 worth 1 pieces 1 weight 1 pegs ", ";", 0, 9, x -> (x.house(0, 7) - 12) / 3);
        RoofGale x = Check.at("house a" + H);
        Check.tells(x, "long without", x.house(0, 4), 4);
        Check.tells(x, "pegs without", x.house(0, 5), 0);
        Check.tells(x, "due without", x.house(0, 8), 0);
    }

    @Says("8: DUE (STATUS tells NONE)")
    static void noneIsToldFromADueOfMinusOne() {
        RoofGale x = Check.at(TWO + "helped a by b 1;");
        Check.due("-1", x.house(0, 8), -1);
        Check.due("STATUS of -1", x.status(), 0);
        Check.due("NONE", x.house(0, 9), -1);
        Check.due("STATUS of NONE", x.status(), 5);
    }

    @Says({"GANGS, at most 4: OF a HOUSE, AT whose place it is at first, so many HANDS (1 to 40), PACE: minutes by which it goes one place (0 to 9; 1 without).",
        "Of a GANG, what 0: its HOUSE, 1: HANDS, 2: PACE, 3: AT,"})
    static void theNumbersOfAGang() {
        number(TWO + "gang g of b hands ", ";", 1, 40, x -> x.gang(0, 1));
        number(TWO + "gang g of b hands 1 pace ", ";", 0, 9, x -> x.gang(0, 2));
        number("house a at ", " worth 1 pieces 1 weight 1;gang g of a hands 1;", 0, 60, x -> x.gang(0, 3));
        RoofGale x = Check.at("house a at 9 worth 1 pieces 1 weight 1;house b at 8 worth 1 pieces 1 weight 1;gang g of b hands 1;");
        Check.tells(x, "its house", x.gang(0, 0), 1);
        Check.tells(x, "pace without", x.gang(0, 2), 1);
        Check.tells(x, "at the place of its house", x.gang(0, 3), 8);
    }

    @Says({"4: the HOUSE at hand (8: none), 5: minutes that are left of its way and of its PIECE together (one that is not begun yet counts whole; "
            + "0 without a HOUSE at hand) (2; 5)."})
    static void minutesThatAreLeftOfAGang() {
        RoofGale x = Check.at("house a at 0 worth 1 pieces 2 weight 2;house b at 3 worth 1 pieces 1 weight 1;gang g of b hands 4;");
        Check.fails(x, "none at hand", x.gang(0, 4), 8);
        Check.tells(x, "0 without one", x.gang(0, 5), 0);
        x.lift(0, 0);
        Check.tells(x, "at hand", x.gang(0, 4), 0);
        int[] left = {5, 4, 3, 2, 1, 2, 1, 0};
        for (int minute = 0; minute < left.length; minute++) {
            Check.tells(x, "left in minute " + minute, x.gang(0, 5), left[minute]);
            x.hour(1);
        }
    }

    @Says({"HELPED: a HOUSE was helped BY another one so many times (0 to 99; told again: the latest).",
        "How often a HOUSE was HELPED by another one (2; 5: one and itself)."})
    static void howOftenAHouseWasHelped() {
        number(TWO + "helped a by b ", ";", 0, 99, x -> x.helped(0, 1));
        RoofGale x = Check.at(TWO);
        Check.tells(x, "not told", x.helped(0, 1), 0);
        Check.shore(x, TWO + "helped a by b 99;helped b by a 7;helped a by b 0;");
        Check.tells(x, "the latest, 0 too", x.helped(0, 1), 0);
        Check.tells(x, "the other way", x.helped(1, 0), 7);
        Check.fails(x, "one and itself", x.helped(1, 1), 5);
        Check.fails(x, "none and itself", x.helped(2, 2), 2);
        Check.shoreFault(TWO + "helped a by a 1;", 5, TWO.length() + 12);
    }

    @Says({"WINDS, at most 6: a NAME of its own, so strong (0 to 99), by so many chances (1 to 99).", "Of a WIND, what 0: its strength, 1: its chances (2; 5)."})
    static void theNumbersOfAWind() {
        number("wind w ", " of 1;", 0, 99, x -> x.wind(0, 0));
        number("wind w 1 of ", ";", 1, 99, x -> x.wind(0, 1));
        number("wind w 1 of ", ";", 1, 99, x -> x.many(9));
    }

    // ---- how many there may be

    @Says("HOUSES, at most 8:")
    static void fromNoHouseToEight() {
        for (int many = 0; many <= 8; many++) {
            RoofGale x = new RoofGale();
            Check.tells(x, "houses", Check.shore(x, houses(many)), many);
            Check.tells(x, "houses", x.many(0), many);
            Check.tells(x, "all stand", x.many(5), (1 << many) - 1);
            Check.fails(x, "one more", x.house(many, 0), 2);
            Check.fails(x, "ahead of the first", x.house(-1, 0), 2);
        }
        String eight = houses(8);
        Check.shoreFault(eight + "house", 6, eight.length());
        Check.shoreFault(eight + " house i" + H, 6, eight.length() + 1);
        Check.shoreFault(eight + "house a" + H, 6, eight.length());
        Check.shoreFault(eight + "house house", 6, eight.length());
        taken(eight + "gang q of h hands 1;wind w 1 of 1;law near;", 8);
    }

    @Says("GANGS, at most 4:")
    static void fromNoGangToFour() {
        for (int many = 0; many <= 4; many++) {
            RoofGale x = Check.at(gangs(many));
            Check.tells(x, "gangs", x.many(1), many);
            Check.fails(x, "one more", x.gang(many, 0), 2);
            Check.fails(x, "ahead of the first", x.gang(-1, 0), 2);
        }
        String four = gangs(4);
        Check.shoreFault(four + "gang", 6, four.length());
        Check.shoreFault(four + "gang q of a hands 1;", 6, four.length());
        Check.shoreFault(four + "gang a", 6, four.length());
    }

    @Says("WINDS, at most 6:")
    static void fromNoWindToSix() {
        for (int many = 0; many <= 6; many++) {
            RoofGale x = Check.at(winds(many));
            Check.tells(x, "winds", x.many(2), many);
            Check.tells(x, "chances", x.many(9), many);
            Check.fails(x, "one more", x.wind(many, 0), 2);
            Check.fails(x, "ahead of the first", x.wind(-1, 0), 2);
        }
        String six = winds(6);
        Check.shoreFault(six + "wind", 6, six.length());
        Check.shoreFault(six + "wind a 1 of 1;", 6, six.length());
        Check.shoreFault(six + "wind j", 6, six.length());
    }

    @Says("All are numbered as they stand; what a PART names must be told ahead.")
    static void allAreNumberedAsTheyStand() {
        RoofGale x = Check.at("wind v 5 of 6;house z at 9 worth 1 pieces 1 weight 1;gang y of z hands 7;house a at 8 worth 1 pieces 1 weight 1;"
                + "wind b 3 of 4;gang c of a hands 2;");
        Check.tells(x, "z", x.house(0, 0), 9);
        Check.tells(x, "a", x.house(1, 0), 8);
        Check.tells(x, "y", x.gang(0, 1), 7);
        Check.tells(x, "c", x.gang(1, 1), 2);
        Check.tells(x, "v", x.wind(0, 0), 5);
        Check.tells(x, "b", x.wind(1, 0), 3);
        Check.shoreFault("gang g of a hands 1;" + TWO, 3, 10);
        Check.shoreFault("helped a by b 1;" + TWO, 3, 7);
        Check.shoreFault("house a" + H + "helped a by b 1;house b" + H, 3, 51);
        Check.shoreFault("house a" + H + "gang g of b hands 1;house b" + H, 3, 49);
    }

    // ---- faults

    @Says("FAULTS, the first along the text (of one TOKEN the least kind):")
    static void theFirstFaultAlongTheText() {
        Check.shoreFault("house a at 61 worth 1000 pieces 0;", 4, 11);
        Check.shoreFault("house a at 61 !", 4, 11);
        Check.shoreFault("house a ! 61", 1, 8);
        Check.shoreFault("law near; law near; go", 5, 10);
        Check.shoreFault("house a at 1 worth 1 pieces 1 weight 1 law !", 2, 39);
        Check.shoreFault("go 12345", 2, 0);
        Check.shoreFault("12345 go", 1, 0);
        Check.shoreFault(TWO + "helped c by c 100;", 3, TWO.length() + 7);
        Check.shoreFault(TWO + "helped a by a 100;", 5, TWO.length() + 12);
        Check.shoreFault(TWO + "helped a by a !", 5, TWO.length() + 12);
        Check.shoreFault(TWO + "helped a by a", 5, TWO.length() + 12);
        Check.shoreFault("law near;law", 5, 9);
        Check.shoreFault("law near;law!", 5, 9);
    }

    @Says("1 no TOKEN begins so (a NUMBER of 5 digits and more: at its first).")
    static void faultOne() {
        Check.shoreFault("house a at 00000 worth 1", 1, 11);
        Check.shoreFault("house a at 0000 worth 1!", 1, 23);
        Check.shoreFault("house a at 99999", 1, 11);
        Check.shoreFault("house a at " + "1".repeat(800), 1, 11);
        Check.shoreFault("house 12345 at", 1, 6);
        Check.shoreFault("house \u00e4 at", 1, 6);
        Check.shoreFault("houseA at", 1, 5);
        Check.shoreFault("house a at 1.", 1, 12);
        Check.shoreFault("\u0000", 1, 0);
        Check.shoreFault("\u00ff", 1, 0);
        Check.shoreFault("house a\tat", 1, 7);
        Check.shoreFault("house a\rat", 1, 7);
    }

    @Says("2 it can't stand there (the end: the text's length; a WORD of 9 letters and more where a NAME must stand).")
    static void faultTwo() {
        Check.shoreFault("house", 2, 5);
        Check.shoreFault("house   ", 2, 8);
        Check.shoreFault("house abcdefghi", 2, 6);
        Check.shoreFault("house a abcdefghi", 2, 8);
        Check.shoreFault("abcdefghi", 2, 0);
        Check.shoreFault("a", 2, 0);
        Check.shoreFault("house a at 1 worth 1 pieces 1 weight 1;;", 2, 39);
        Check.shoreFault("house a at 1 worth 1 pieces 1 weight 1 house b", 2, 39);
        Check.shoreFault("house a at 1 worth 1 pieces 1 weight 1 pegs 1 long 1;", 2, 46);
    }

    @Says("3 a new NAME that is taken; a NAME that is no such thing told ahead.")
    static void faultThree() {
        int n = TWO.length();
        String all = TWO + "gang g of a hands 1;wind w 1 of 1;";
        int m = all.length();
        Check.shoreFault(TWO + "house b" + H, 3, n + 6);
        Check.shoreFault(all + "gang h of g hands 1;", 3, m + 10);
        Check.shoreFault(all + "gang h of w hands 1;", 3, m + 10);
        Check.shoreFault(all + "gang h of h hands 1;", 3, m + 10);
        Check.shoreFault(all + "helped g by a 1;", 3, m + 7);
        Check.shoreFault(all + "helped a by w 1;", 3, m + 12);
        Check.shoreFault(all + "helped x by a 1;", 3, m + 7);
        Check.shoreFault(all + "helped a by x 1;", 3, m + 12);
        RoofGale x = Check.at(TWO);
        Check.fails(x, "a name of the shore ahead", Check.shore(x, "gang g of a hands 1;"), 10);
        Check.due("is no such thing", x.fault(0), 3);
    }

    @Says("4 a NUMBER that can't be.")
    static void faultFour() {
        Check.shoreFault("house a at 61", 4, 11);
        Check.shoreFault("house a at 0061", 4, 11);
        Check.shoreFault("wind w 100", 4, 7);
        Check.shoreFault("wind w 0 of 0000", 4, 12);
    }

    @Says("5 law told already (at that WORD); a HOUSE HELPED BY itself (at the second NAME).")
    static void faultFive() {
        Check.shoreFault("law near; law near;", 5, 10);
        Check.shoreFault("law told; law owed;", 5, 10);
        Check.shoreFault("law worth;" + TWO + "law worth;", 5, 10 + TWO.length());
        Check.shoreFault(TWO + "helped b by  b 1;", 5, TWO.length() + 13);
        RoofGale x = Check.at("law near;");
        Check.tells(x, "told in another text", Check.shore(x, "law owed;"), 0);
    }

    @Says("6 one more house, gang, wind than there may be (at that WORD).")
    static void faultSix() {
        Check.shoreFault(houses(8) + "\nhouse", 6, houses(8).length() + 1);
        Check.shoreFault(gangs(4) + "\ngang", 6, gangs(4).length() + 1);
        Check.shoreFault(winds(6) + "\nwind", 6, winds(6).length() + 1);
    }

    // ---- the shore that is taken

    @Says("A SHORE that is taken is there in place of that ahead; all roofs are ON, all HOUSES STAND, it is MINUTE 0, there are no YEARS.")
    static void aShoreIsThereInPlaceOfThatAhead() {
        String text = TWO + "house c at 9 worth 1 pieces 9 weight 20;gang g of b hands 8;helped a by b 2;wind w 99 of 1;law near;";
        RoofGale x = Check.at(text);
        Check.years(x, "stop;");
        x.hour(1);
        x.lift(0, 2);
        x.hour(20);
        x.help(1, 0, 9);
        x.gale(12);
        Check.tells(x, "not all stand", x.many(5), 5);
        Check.tells(x, "a roof is off", x.many(6), 1);
        Check.tells(x, "a piece is off", x.house(2, 6), 8);
        Check.tells(x, "again", Check.shore(x, text), 3);
        int[] many = {3, 1, 1, 2, 0, 7, 0, 3, 0, 1};
        for (int what = 0; what < many.length; what++) {
            Check.tells(x, "many " + what, x.many(what), many[what]);
        }
        Check.tells(x, "all pieces are on", x.house(2, 6), 9);
        Check.tells(x, "debts as told", x.helped(1, 0), 0);
        Check.tells(x, "debts as told", x.helped(0, 1), 2);
        Check.fails(x, "nothing at hand", x.gang(0, 4), 8);
        Check.tells(x, "at its house", x.gang(0, 3), 1);
        Check.fails(x, "no years", x.live(0), 8);
        Check.no(x, "no years", x.mean(0, 1), 8);
        Check.tells(x, "an empty one", Check.shore(x, ""), 0);
        for (int what = 0; what < 10; what++) {
            Check.tells(x, "many " + what, x.many(what), what == 3 ? 3 : 0);
        }
    }

    @Says({"(1 to 20; 4 without), PEGS (0 to 9; 0 without).", "(0 to 9; 1 without)", "LAW (told without)", "A SHORE that is taken is there in place of that ahead;"})
    static void nothingStaysOfTheShoresAhead() {
        String full = "house a at 9 worth 9 pieces 9 weight 9 long 20 pegs 9;house b at 9 worth 9 pieces 9 weight 9 long 20 pegs 9;"
                + "gang g of b hands 9 pace 9;helped a by b 9;helped b by a 9;wind w 9 of 9;law near;";
        RoofGale x = Check.at(full);
        for (int again = 0; again < 3; again++) {
            Check.tells(x, "without", Check.shore(x, TWO + "gang g of a hands 1;"), 2);
            Check.tells(x, "long", x.house(0, 4) * 10 + x.house(1, 4), 44);
            Check.tells(x, "pegs", x.house(0, 5) + x.house(1, 5), 0);
            Check.tells(x, "pace", x.gang(0, 2), 1);
            Check.tells(x, "debts", x.helped(0, 1) + x.helped(1, 0), 0);
            Check.tells(x, "winds", x.many(2), 0);
            Check.tells(x, "law", x.many(3), 3);
            Check.fails(x, "a fault", Check.shore(x, full + "go"), 10);
        }
    }

    @Says("HOUSES (what 0), GANGS (1), WINDS (2), the LAW (3: 0 worth, 1 owed, 2 near, 3 told), the MINUTE (4), sets of HOUSES (1 for HOUSE 0 ..) that STAND (5), "
            + "that STAND and whose roof is off (6), the WORTH of all that STAND (7), of all that fell (8), all chances of WINDS (9) (5).")
    static void manyOfTheEmptyAndTheFull() {
        StringBuilder full = new StringBuilder();
        for (int h = 0; h < 8; h++) {
            full.append("house ").append(NAMES.charAt(h)).append(" at 0 worth 999 pieces 1 weight ").append(h == 7 ? 20 : 1).append(";");
        }
        for (int g = 0; g < 4; g++) {
            full.append("gang ").append(NAMES.charAt(8 + g)).append(" of a hands 40;");
        }
        full.append("law owed;wind t 9 of 99;wind u 9 of 99;wind v 9 of 99;wind w 9 of 99;wind x 9 of 99;wind y 9 of 99;");
        RoofGale x = Check.at(full.toString());
        x.hour(1);
        x.gale(29);
        int[] many = {8, 4, 6, 1, 1, 143, 15, 5 * 999, 3 * 999, 594};
        for (int what = 0; what < many.length; what++) {
            Check.tells(x, "many " + what, x.many(what), many[what]);
        }
        for (int what : new int[] {-1, 10, Integer.MIN_VALUE, Integer.MAX_VALUE}) {
            Check.fails(x, "many " + what, x.many(what), 5);
        }
        x.dawn();
        x.gale(99);
        Check.tells(x, "all fell", x.many(5), 0);
        Check.tells(x, "none stands with its roof off", x.many(6), 0);
        Check.tells(x, "the worth that stands", x.many(7), 0);
        Check.tells(x, "the worth that fell", x.many(8), 7992);
    }
}
