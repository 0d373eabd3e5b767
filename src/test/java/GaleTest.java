/** Promises 27 to 32: what the gale takes. */
public final class GaleTest {
    private static final String CALM = "house a at 0 worth 9 pieces 1 weight 1;";

    public static void main(String[] args) {
        falls();
        risk();
        loss();
        saves();
        dearest();
        worstWind();
        Check.end("GaleTest");
    }

    private static void falls() {
        RoofGale x = Check.at();
        int[][] due = {{0, 0}, {12, 0}, {13, 4}, {15, 4}, {16, 5}, {22, 5}, {23, 7}, {57, 7}, {58, 15}, {99, 15}};
        for (int[] d : due) {
            Check.tells(x, "falls " + d[0], x.falls(d[0]), d[1]);
        }
        Check.fails(x, "falls", x.falls(-1), 5);
        Check.fails(x, "falls", x.falls(100), 5);
        x.hour(9);
        Check.tells(x, "not with its roof off", x.falls(99), 13);
        x.gale(16);
        Check.tells(x, "not what fell", x.falls(99), 8);
        Check.tells(x, "nothing falls by it", x.many(5), 10);
    }

    private static void risk() {
        RoofGale x = Check.at();
        Check.fraction(x, "always", x.risk(0), 1, 1);
        Check.fraction(x, "bob", x.risk(1), 3, 5);
        Check.fraction(x, "dan", x.risk(3), 1, 10);
        Check.no(x, "risk", x.risk(4), 2);
        Check.no(x, "risk", x.risk(-1), 2);
        x.hour(9);
        Check.fraction(x, "its roof is off", x.risk(1), 0, 1);
        x.gale(16);
        Check.fraction(x, "it fell already", x.risk(0), 0, 1);
        RoofGale y = Check.at(CALM);
        Check.no(y, "2 ahead of 8", y.risk(1), 2);
        Check.no(y, "no winds", y.risk(0), 8);
    }

    private static void loss() {
        RoofGale x = Check.at();
        Check.fraction(x, "loss", x.loss(), 360, 1);
        x.hour(9);
        Check.fraction(x, "without bob", x.loss(), 180, 1);
        x.gale(16);
        Check.fraction(x, "dan alone", x.loss(), 30, 1);
        RoofGale y = Check.at(CALM + "wind v 12 of 4;wind w 11 of 2;");
        Check.fraction(y, "6 by 1", y.loss(), 6, 1);
        RoofGale z = Check.at(CALM + "wind v 12 of 4;wind w 11 of 3;");
        Check.fraction(z, "36 by 7", z.loss(), 36, 7);
        RoofGale none = Check.at(CALM);
        Check.no(none, "no winds", none.loss(), 8);
    }

    private static void saves() {
        RoofGale x = Check.at();
        Check.no(x, "saves", x.saves(0, 0), 5);
        Check.no(x, "saves", x.saves(241, 0), 5);
        Check.no(x, "saves", x.saves(1, -1), 5);
        Check.no(x, "saves", x.saves(1, 100), 5);
        Check.fraction(x, "bob", x.saves(9, 7), 173, 1);
        Check.fraction(x, "too short", x.saves(8, 99), 0, 1);
        Check.fraction(x, "all", x.saves(240, 99), 360 - 4 * 99, 1);
        Check.tells(x, "all stays", x.many(4), 0);
        Check.tells(x, "all stays", x.many(6), 0);
        Check.tells(x, "all stays", x.helped(1, 0), 0);
        Check.fails(x, "all stays", x.gang(0, 4), 8);
        for (int i = 0; i < 41; i++) {
            x.hour(240);
        }
        x.hour(159);
        Check.tells(x, "the last minute", x.many(4), 9999);
        Check.fraction(x, "the minute is not asked", x.saves(240, 1), 0, 1);
        RoofGale y = Check.at(CALM);
        Check.no(y, "5 ahead of 8", y.saves(0, 0), 5);
        Check.no(y, "no winds", y.saves(1, 0), 8);
    }

    private static void dearest() {
        RoofGale x = Check.at();
        Check.tells(x, "bob", x.dearest(), 1);
        x.hour(9);
        Check.tells(x, "ann, 100 for sure", x.dearest(), 0);
        x.gale(15);
        x.gale(16);
        Check.tells(x, "dan", x.dearest(), 3);
        x.hour(240);
        Check.fails(x, "no roof is on", x.dearest(), 8);
        RoofGale y = Check.at(CALM + "house b at 0 worth 9 pieces 1 weight 1;wind w 0 of 1;");
        Check.tells(y, "less by 0, the first", y.dearest(), 0);
        RoofGale z = Check.at(CALM);
        Check.fails(z, "no winds", z.dearest(), 8);
        RoofGale none = Check.at("wind w 99 of 1;");
        Check.fails(none, "no houses", none.dearest(), 8);
    }

    private static void worstWind() {
        RoofGale x = Check.at();
        Check.tells(x, "storm", x.worstWind(), 2);
        x.lift(1, 3);
        x.hour(40);
        Check.tells(x, "dan is off: of several the first", x.worstWind(), x.falls(30) == x.falls(18) ? 0 : 1);
        x.hour(240);
        Check.tells(x, "nothing falls: the first", x.worstWind(), 0);
        RoofGale y = Check.at(CALM + "wind v 11 of 9;wind w 12 of 1;wind u 13 of 9;");
        Check.tells(y, "chances are not asked", y.worstWind(), 1);
        RoofGale z = Check.at(CALM);
        Check.fails(z, "no winds", z.worstWind(), 8);
    }
}
