/** Promises 33 to 38: the best order. */
public final class PlanTest {
    private static final String LINE = "house a at 10 worth 5 pieces 1 weight 1;house b at 8 worth 5 pieces 1 weight 1;house c at 12 worth 5 pieces 1 weight 1;"
            + "house d at 5 worth 0 pieces 1 weight 1;house e at 15 worth 10 pieces 1 weight 1;gang g of a hands 4;";

    public static void main(String[] args) {
        best();
        bestSet();
        soonest();
        order();
        shared();
        allOff();
        Check.end("PlanTest");
    }

    private static void best() {
        RoofGale x = Check.at(LINE);
        int[][] due = {{0, 0, 0}, {1, 5, 1}, {3, 5, 1}, {4, 10, 3}, {5, 10, 3}, {6, 10, 16}, {7, 15, 17}, {8, 20, 21},
            {240, 25, 23}};
        for (int[] d : due) {
            Check.tells(x, "best in " + d[0], x.best(0, d[0]), d[1]);
            Check.tells(x, "set in " + d[0], x.bestSet(), d[2]);
        }
        Check.fails(x, "2 ahead of 5", x.best(1, 241), 2);
        Check.fails(x, "best", x.best(-1, 0), 2);
        Check.fails(x, "best", x.best(0, 241), 5);
        Check.fails(x, "best", x.best(0, -1), 5);
        x.lift(0, 4);
        Check.tells(x, "from where it is, what it has not minded", x.best(0, 1), 10);
        Check.tells(x, "e", x.bestSet(), 16);
        x.hour(6);
        Check.tells(x, "e is off", x.best(0, 3), 0);
        Check.tells(x, "c from there", x.best(0, 4), 5);
        Check.tells(x, "c", x.bestSet(), 4);
        x.gale(99);
        Check.tells(x, "all fell", x.best(0, 240), 0);
        RoofGale y = Check.at("house a at 0 worth 9 pieces 3 weight 1;gang g of a hands 4;gang h of a hands 4;");
        y.lift(1, 0);
        y.hour(2);
        Check.tells(y, "roofs as they are, alone", y.best(0, 1), 9);
    }

    private static void bestSet() {
        RoofGale x = new RoofGale();
        Check.fails(x, "there was none", x.bestSet(), 8);
        x.best(0, 1);
        Check.fails(x, "there was none with status 0", x.bestSet(), 8);
        Check.shore(x, LINE);
        x.best(0, 1);
        x.best(0, 241);
        Check.tells(x, "the latest with status 0", x.bestSet(), 1);
        Check.shore(x, "");
        Check.tells(x, "whatever came since", x.bestSet(), 1);
    }

    private static void soonest() {
        RoofGale x = Check.at(LINE);
        int[][] due = {{0, 0}, {1, 1}, {2, 3}, {6, 8}, {7, 9}, {8, 6}, {24, 17}, {31, 20}};
        for (int[] d : due) {
            Check.tells(x, "soonest " + d[0], x.soonest(0, d[0]), d[1]);
        }
        Check.fails(x, "2 ahead of 5", x.soonest(1, 32), 2);
        Check.fails(x, "no such house", x.soonest(0, 32), 5);
        Check.fails(x, "below 0", x.soonest(0, -1), 5);
        x.lift(0, 1);
        x.hour(3);
        Check.fails(x, "b is off", x.soonest(0, 3), 9);
        Check.tells(x, "a", x.soonest(0, 1), 3);
        x.gale(99);
        Check.fails(x, "a fell", x.soonest(0, 1), 9);
        Check.tells(x, "an empty set", x.soonest(0, 0), 0);
        RoofGale y = Check.at("house a at 0 worth 9 pieces 3 weight 2 pegs 1;house b at 60 worth 9 pieces 9 weight 20 pegs 9;gang g of a hands 1 pace 9;");
        Check.tells(y, "the longest", y.soonest(0, 3), 3 * 12 + 540 + 9 * 116);
    }

    private static void order() {
        RoofGale x = Check.at(LINE);
        Check.fails(x, "no soonest yet", x.order(0), 8);
        orderIs(x, 31, 0, 1, 3, 2, 4);
        orderIs(x, 6, 1, 2);
        orderIs(x, 24, 3, 4);
        x.soonest(0, 32);
        Check.tells(x, "the latest with status 0", x.order(0), 3);
        Check.fails(x, "order", x.order(-1), 8);
        orderIs(x, 0);
        RoofGale y = Check.at(LINE + "gang h of a hands 1 pace 0;");
        y.soonest(1, 31);
        for (int k = 0; k < 5; k++) {
            Check.tells(y, "no way takes time: by numbers", y.order(k), k);
        }
        RoofGale z = Check.at("house a at 3 worth 1 pieces 1 weight 1;house b at 2 worth 1 pieces 1 weight 1;house c at 1 worth 1 pieces 1 weight 1;gang g of b hands 1;");
        orderIs(z, 7, 0, 1, 2);
        RoofGale w = Check.at("house a at 1 worth 1 pieces 1 weight 1;house b at 3 worth 1 pieces 1 weight 1;house c at 0 worth 1 pieces 1 weight 1;gang g of c hands 1;");
        orderIs(w, 3, 0, 1);
        orderIs(w, 7, 2, 0, 1);
    }

    private static void orderIs(RoofGale x, int set, int... houses) {
        x.soonest(0, set);
        for (int k = 0; k < houses.length; k++) {
            Check.tells(x, "order of " + set + " at " + k, x.order(k), houses[k]);
        }
        Check.fails(x, "no more in " + set, x.order(houses.length), 8);
    }

    private static void shared() {
        RoofGale x = Check.at(LINE + "gang h of e hands 2;");
        int[][] due = {{0, 0}, {1, 5}, {2, 15}, {3, 15}, {4, 20}, {7, 25}, {240, 25}};
        for (int[] d : due) {
            Check.tells(x, "shared in " + d[0], x.shared(d[0]), d[1]);
        }
        Check.fails(x, "shared", x.shared(-1), 5);
        Check.fails(x, "shared", x.shared(241), 5);
        x.lift(0, 4);
        Check.tells(x, "from where they are", x.shared(1), 10);
        RoofGale none = Check.at("house a at 0 worth 9 pieces 3 weight 1;");
        Check.tells(none, "no gangs", none.shared(240), 0);
    }

    private static void allOff() {
        RoofGale x = Check.at(LINE + "gang h of e hands 2;");
        Check.tells(x, "both", x.allOff(), 8);
        Check.tells(x, "nothing is done by it", x.many(6), 0);
        x.hour(240);
        Check.tells(x, "all are off", x.allOff(), 0);
        RoofGale none = Check.at("house a at 0 worth 9 pieces 3 weight 1;");
        Check.fails(none, "no gangs", none.allOff(), 8);
        none.gale(99);
        Check.tells(none, "it fell", none.allOff(), 0);
        RoofGale just = Check.at("house a at 0 worth 1 pieces 9 weight 15 pegs 0;house b at 51 worth 1 pieces 9 weight 1;gang g of a hands 1 pace 8;");
        Check.tells(just, "984", just.allOff(), 540 + 408 + 36);
        RoofGale last = Check.at("house a at 0 worth 1 pieces 9 weight 20 pegs 7;house b at 3 worth 1 pieces 1 weight 6;gang g of a hands 1 pace 1;");
        Check.tells(last, "999", last.allOff(), 972 + 3 + 24);
        RoofGale over = Check.at("house a at 0 worth 1 pieces 9 weight 20 pegs 7;house b at 4 worth 1 pieces 1 weight 6;gang g of a hands 1 pace 1;");
        Check.fails(over, "1,000", over.allOff(), 8);
    }
}
