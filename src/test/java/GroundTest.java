/** Promises 45 to 49: the ground, slates, neighbours. */
public final class GroundTest {
    public static void main(String[] args) {
        ground();
        signs();
        flown();
        likeliest();
        neighbour();
        Check.end("GroundTest");
    }

    private static String roofs(int... lengths) {
        StringBuilder text = new StringBuilder();
        for (int i = 0; i < lengths.length; i++) {
            text.append("house ").append((char) ('a' + i)).append(" at 0 worth 1 pieces 1 weight 1 long ")
                    .append(lengths[i]).append(';');
        }
        return text.append("gang red of a hands 40;").toString();
    }

    private static void ground() {
        RoofGale x = Check.at(roofs(7, 6, 5, 4, 3, 3, 2, 2));
        Check.tells(x, "none is off", x.ground(1), 0);
        x.hour(240);
        int[][] due = {{99, 1}, {32, 1}, {31, 2}, {16, 2}, {15, 3}, {11, 3}, {8, 5}, {7, 5}};
        for (int[] d : due) {
            Check.tells(x, "ground " + d[0], x.ground(d[0]), d[1]);
        }
        Check.fails(x, "one is longer", x.ground(6), 9);
        Check.fails(x, "ground", x.ground(0), 5);
        Check.fails(x, "ground", x.ground(-1), 5);
        Check.fails(x, "ground", x.ground(100), 5);
        RoofGale y = Check.at(roofs(4, 4, 6, 6));
        y.hour(240);
        Check.tells(y, "not the first that fits", y.ground(10), 2);
        RoofGale z = Check.at(roofs(4, 20));
        z.hour(1);
        Check.tells(z, "what is on is not asked", z.ground(4), 1);
        z.gale(99);
        Check.tells(z, "what fell is not asked", z.ground(4), 1);
    }

    private static void signs() {
        RoofGale x = Check.at();
        Check.fails(x, "signs", x.signs(4, 0), 1);
        Check.fails(x, "signs", x.signs(0, 0), 3);
        x.tray(0, 0, 7);
        Check.fails(x, "4 ahead of 5", x.signs(0, 61), 4);
        Check.fails(x, "too few", x.signs(0, 8), 4);
        Check.fails(x, "n", x.signs(0, 0), 5);
        Check.fails(x, "n", x.signs(0, Integer.MIN_VALUE), 5);
        int[] homes = {0, 1, 0, 0, 1, 3, 4};
        for (int i = 0; i < homes.length; i++) {
            x.write(0, i, homes[i]);
        }
        int[] over = {0, 0, 0, 1, 2, 2};
        for (int n = 1; n <= over.length; n++) {
            Check.tells(x, "signs of " + n, x.signs(0, n), over[n - 1]);
        }
        Check.fails(x, "no house", x.signs(0, 7), 2);
        x.write(0, 0, -1);
        Check.fails(x, "no house", x.signs(0, 1), 2);
        x.write(0, 0, 2);
        x.hour(240);
        Check.tells(x, "the roof's pieces, on or off", x.signs(0, 6), 1);
        RoofGale none = new RoofGale();
        none.tray(3, 3, 1);
        Check.fails(none, "5 ahead of 2", none.signs(3, 0), 5);
        Check.fails(none, "no houses", none.signs(3, 1), 2);
        none.tray(3, 3, 0);
        Check.fails(none, "nothing of an empty tray", none.signs(3, 0), 5);
    }

    private static RoofGale withTray(String shore, int... fell) {
        RoofGale x = Check.at(shore);
        x.tray(2, 0, fell.length);
        for (int h = 0; h < fell.length; h++) {
            x.write(2, h, fell[h]);
        }
        return x;
    }

    private static final String WINDS = "wind v 31 of 6;wind w 17 of 4;wind u 0 of 1;";

    private static void flown() {
        RoofGale x = withTray(Check.SHORE + WINDS, 1, 0, 1, 0, 9);
        Check.tells(x, "gust, w", x.flown(2), 1 + 16);
        x.write(2, 1, 1);
        Check.tells(x, "blow, v", x.flown(2), 2 + 8);
        x.write(2, 3, 1);
        Check.tells(x, "storm", x.flown(2), 4);
        x.write(2, 0, 0);
        Check.tells(x, "no wind", x.flown(2), 0);
        RoofGale y = withTray(Check.SHORE + WINDS, 0, 0, 0, 0);
        Check.tells(y, "none fell", y.flown(2), 32);
        y.hour(9);
        y.write(2, 0, 1);
        y.write(2, 2, 1);
        Check.tells(y, "roofs as they are", y.flown(2), 1 + 2 + 8 + 16);
        y.gale(16);
        Check.tells(y, "of those that stand", y.flown(2), 1 + 2 + 8 + 16 + 32);
        y.write(2, 0, 0);
        Check.tells(y, "what fell ahead is not asked", y.flown(2), 1 + 2 + 8 + 16 + 32);
        wrongFlown();
    }

    private static void wrongFlown() {
        RoofGale x = Check.at(Check.SHORE);
        Check.fails(x, "flown", x.flown(-1), 1);
        Check.fails(x, "likeliest", x.likeliest(4), 1);
        Check.fails(x, "flown", x.flown(1), 3);
        Check.fails(x, "likeliest", x.likeliest(1), 3);
        x.tray(1, 0, 3);
        x.write(1, 0, 2);
        Check.fails(x, "4 ahead of 5", x.flown(1), 4);
        Check.fails(x, "4 ahead of 5", x.likeliest(1), 4);
        x.tray(1, 0, 5);
        x.write(1, 3, 2);
        Check.fails(x, "flown", x.flown(1), 5);
        Check.fails(x, "5 ahead of 8", x.likeliest(1), 5);
        x.write(1, 3, -1);
        Check.fails(x, "flown", x.flown(1), 5);
        RoofGale none = new RoofGale();
        none.tray(0, 0, 0);
        Check.tells(none, "no winds", none.flown(0), 0);
        Check.fails(none, "no winds", none.likeliest(0), 8);
    }

    private static void likeliest() {
        RoofGale x = withTray(Check.SHORE + WINDS, 1, 0, 1, 0);
        Check.tells(x, "4 each: the first", x.likeliest(2), 0);
        x.write(2, 1, 1);
        Check.tells(x, "6 chances", x.likeliest(2), 3);
        x.write(2, 0, 0);
        Check.fails(x, "none", x.likeliest(2), 8);
    }

    private static void neighbour() {
        RoofGale x = Check.at();
        int[] due = {1, 3, 3, 1};
        for (int h = 0; h < 4; h++) {
            Check.tells(x, "neighbour of " + h, x.neighbour(h), due[h]);
        }
        Check.fails(x, "neighbour", x.neighbour(4), 2);
        Check.fails(x, "neighbour", x.neighbour(-1), 2);
        x.gale(30);
        Check.tells(x, "of one that fell", x.neighbour(1), 3);
        Check.fails(x, "no other stands", x.neighbour(3), 8);
        RoofGale y = Check.at("house a at 5 worth 1 pieces 1 weight 1;house b at 7 worth 1 pieces 1 weight 1;house c at 3 worth 1 pieces 1 weight 1;house d at 5 worth 1 pieces 1 weight 9;");
        Check.tells(y, "the same place", y.neighbour(0), 3);
        RoofGale z = Check.at("house a at 5 worth 1 pieces 1 weight 1;house b at 7 worth 1 pieces 1 weight 1;house c at 3 worth 1 pieces 1 weight 1;");
        Check.tells(z, "of several the first", z.neighbour(0), 1);
    }
}
