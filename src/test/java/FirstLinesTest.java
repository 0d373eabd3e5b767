import java.io.IOException;

/** What the document says ahead of its terms: each thing that the class is for, once, as plainly as can be. */
public final class FirstLinesTest {
    public static void main(String[] args) throws IOException, ReflectiveOperationException {
        Sentences.run(FirstLinesTest.class);
    }

    @Says("A shore on which roofs are lifted off before each gale: ")
    static void whoseRoofIsLiftedStands() {
        RoofGale x = Check.at();
        Check.tells(x, "the way to bob", x.lift(0, 1), 4);
        Check.tells(x, "bob's roof is lifted off", x.hour(9), 1);
        Check.tells(x, "the gale takes the others", x.gale(99), 3);
        Check.tells(x, "bob stands", x.many(5), 2);
    }

    @Says({"houses with roofs in pieces, weights, worths, hands in gangs with paces, debts of help, winds that are told with chances, ",
        "a law of who is lifted first, as a text; "})
    static void aShoreIsAText() {
        RoofGale x = Check.at();
        Check.tells(x, "ann's pieces", x.house(0, 2), 2);
        Check.tells(x, "ann's weight", x.house(0, 3), 5);
        Check.tells(x, "ann's worth", x.house(0, 1), 100);
        Check.tells(x, "blu's hands", x.gang(1, 1), 4);
        Check.tells(x, "blu's pace", x.gang(1, 2), 2);
        Check.tells(x, "ann was helped by bob", x.helped(0, 1), 3);
        Check.tells(x, "the chances of the gust", x.wind(0, 1), 4);
        Check.tells(x, "the law is worth", x.many(3), 0);
        Check.tells(x, "bob is lifted first", x.next(0), 1);
    }

    @Says("a warning hour minute by minute, who lifts what, what is off by when, what the gale takes; ")
    static void anHourMinuteByMinute() {
        RoofGale x = Check.at();
        int[] offIn = {19, 9, 32, 37};
        for (int minute = 1; minute <= 40; minute++) {
            int off = 0;
            int came = 0;
            for (int h = 0; h < 4; h++) {
                off |= offIn[h] <= minute ? 1 << h : 0;
                came += offIn[h] == minute ? 1 : 0;
            }
            Check.tells(x, "came off in minute " + minute, x.hour(1), came);
            Check.tells(x, "minute", x.many(4), minute);
            Check.tells(x, "off by minute " + minute, x.many(6), off);
            Check.tells(x, "what the gale takes then", x.falls(60), 15 & ~off);
            int red = minute < 9 ? 1 : minute > 9 && minute < 19 ? 0 : minute > 19 && minute < 32 ? 2 : RoofGale.NONE;
            Check.due("what red lifts in minute " + minute, x.gang(0, 4), red);
            Check.due("what blu lifts in minute " + minute, x.gang(1, 4), minute < 37 ? 3 : RoofGale.NONE);
        }
    }

    @Says("the order of houses that saves most, by one gang and by all; ")
    static void theOrderThatSavesMost() {
        RoofGale x = Check.at();
        Check.tells(x, "red alone", x.best(0, 15), 400);
        Check.tells(x, "ann and bob", x.bestSet(), 3);
        Check.tells(x, "all the time that there is", x.soonest(0, 3), 15);
        Check.tells(x, "ann first", x.order(0), 0);
        Check.tells(x, "bob then", x.order(1), 1);
        Check.tells(x, "blu lifts cid meanwhile", x.shared(15), 450);
    }

    @Says("whether to lift now or to wait; ")
    static void toLiftOrToWait() {
        RoofGale x = Check.at();
        Check.fraction(x, "to lift saves more than the rain takes", x.saves(240, 89), 4, 1);
        Check.fraction(x, "the rain takes more", x.saves(240, 91), -4, 1);
    }

    @Says("what prophets are worth; ")
    static void prophets() {
        RoofGale x = Check.at();
        x.tray(0, 0, 2);
        x.write(0, 0, 70);
        x.write(0, 1, 20);
        x.tray(1, 0, 2);
        x.write(1, 0, 1);
        Check.tells(x, "what he was off by, squared", x.score(0, 1, 2), 900 + 400);
        Check.tells(x, "who always tells 50 is off by more", x.words(0, 1, 2), 5000 - 1300);
    }

    @Says("who is owed help, who rides free; ")
    static void owedAndFree() {
        RoofGale x = Check.at();
        Check.tells(x, "bob helped three times", x.owed(), 1);
        Check.tells(x, "cid was helped, and never helped", x.riders(), 4);
        Check.tells(x, "bob helped ann, ann helped cid", x.chain(1), 5);
    }

    @Says({"where roofs can lie on the ground; ", "pieces brought home by their signs; "})
    static void roofsAndPiecesOnTheGround() {
        RoofGale x = Check.at();
        x.hour(19);
        Check.tells(x, "ann's 4 and bob's 6 side by side", x.ground(10), 1);
        Check.tells(x, "one above the other", x.ground(9), 2);
        x.tray(0, 0, 3);
        Check.tells(x, "three pieces with ann's sign, but her roof has two", x.signs(0, 3), 1);
    }

    @Says("from where slates lay, which wind it was; ")
    static void whichWindItWas() {
        RoofGale x = Check.at();
        x.tray(0, 0, 4);
        x.write(0, 0, 1);
        x.write(0, 2, 1);
        Check.tells(x, "ann and cid fell: the gust", x.flown(0), 1);
        x.write(0, 1, 1);
        Check.tells(x, "bob, too: that which blows by 30", x.likeliest(0), 1);
    }

    @Says("years as a text, by draws; ")
    static void yearsByDraws() {
        RoofGale x = Check.at();
        Check.tells(x, "years", Check.years(x, "gale;"), 1);
        // 10,597 by 8 is 1,324: the draw by 10 is 4, the first chance behind the gust's four
        Check.tells(x, "live", x.live(0), 1);
        Check.tells(x, "dan alone stands", x.many(5), 8);
    }

    @Says("marks to which all is taken back. ==== 1.")
    static void marksTakeAllBack() {
        RoofGale x = Check.at();
        Check.tells(x, "a mark", x.mark(), 1);
        x.hour(9);
        x.gale(99);
        Check.tells(x, "bob alone stands", x.many(5), 2);
        Check.tells(x, "taken back", x.back(), 0);
        Check.tells(x, "all stand", x.many(5), 15);
        Check.tells(x, "no roof is off", x.many(6), 0);
        Check.tells(x, "minute", x.many(4), 0);
    }

    @Says("An object is used for at most 512 calls after it has been made; what later calls answer is free.")
    static void theLastCallAnswersAsTheFirst() {
        RoofGale x = new RoofGale();
        int bytes = Check.feed(x, Check.SHORE);
        Check.due("the shore", x.shore(bytes), 4);
        int calls = (bytes + 19) / 20 + 1;
        int minutes = 0;
        for (; calls < 511; calls++) {
            x.hour(1);
            minutes++;
        }
        Check.due("the 512th call", x.many(4), minutes);
    }
}
