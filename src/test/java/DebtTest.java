/** Promises 39 to 44: prophets and debts. */
public final class DebtTest {
    private static final String FOUR = "house a at 0 worth 1 pieces 1 weight 1;house b at 0 worth 1 pieces 1 weight 1;"
            + "house c at 0 worth 1 pieces 1 weight 1;house d at 0 worth 1 pieces 1 weight 1;";

    public static void main(String[] args) {
        score();
        words();
        wrongProphets();
        owed();
        riders();
        chain();
        quits();
        Check.end("DebtTest");
    }

    private static RoofGale prophet(int[] told, int[] came) {
        RoofGale x = new RoofGale();
        x.tray(0, 0, told.length);
        x.tray(1, 3, came.length);
        for (int i = 0; i < told.length; i++) {
            x.write(0, i, told[i]);
        }
        for (int i = 0; i < came.length; i++) {
            x.write(1, i, came[i]);
        }
        return x;
    }

    private static void score() {
        RoofGale x = prophet(new int[] {70, 0, 100, 40}, new int[] {1, 0, 0, 1, 7});
        Check.tells(x, "one", x.score(0, 1, 1), 900);
        Check.tells(x, "two", x.score(0, 1, 2), 900);
        Check.tells(x, "three", x.score(0, 1, 3), 10900);
        Check.tells(x, "four", x.score(0, 1, 4), 14500);
        Check.tells(x, "one tray for both", x.score(1, 1, 4), 2 * 99 * 99);
        RoofGale y = prophet(new int[60], new int[60]);
        for (int i = 0; i < 60; i++) {
            y.write(1, i, 1);
        }
        Check.tells(y, "the most", y.score(0, 1, 60), 600000);
    }

    private static void words() {
        RoofGale x = prophet(new int[] {70, 0, 100, 40}, new int[] {1, 0, 0, 1});
        Check.tells(x, "half", x.words(0, 1, 4), 10000 - 14500);
        Check.tells(x, "33, rounded down", x.words(0, 1, 3), 67 * 67 + 2 * 33 * 33 - 10900);
        Check.tells(x, "always", x.words(0, 1, 1), -900);
        RoofGale y = prophet(new int[] {1}, new int[] {0});
        Check.tells(y, "-1 with status 0", y.words(0, 1, 1), -1);
    }

    private static void wrongProphets() {
        RoofGale x = new RoofGale();
        x.tray(0, 3, 2);
        wrong(x, -1, 2, 0, 1);
        wrong(x, 2, 4, 0, 1);
        wrong(x, 0, 2, 9, 3);
        wrong(x, 2, 0, 9, 3);
        x.tray(1, 3, 3);
        wrong(x, 0, 1, 3, 4);
        wrong(x, 1, 0, 3, 4);
        wrong(x, 0, 1, 61, 4);
        wrong(x, 0, 1, 0, 5);
        wrong(x, 0, 1, -1, 5);
        wrong(x, 0, 1, Integer.MIN_VALUE, 5);
        x.write(0, 1, 101);
        wrong(x, 0, 1, 2, 5);
        Check.tells(x, "what lies behind n is not asked", x.score(0, 1, 1), 0);
        x.write(0, 1, -1);
        wrong(x, 0, 1, 2, 5);
        x.write(0, 1, 100);
        x.write(1, 0, 2);
        wrong(x, 0, 1, 2, 5);
        x.write(1, 0, Long.MIN_VALUE);
        wrong(x, 0, 1, 2, 5);
        x.write(1, 0, 1L << 32);
        wrong(x, 0, 1, 2, 5);
    }

    private static void wrong(RoofGale x, int told, int came, int n, int status) {
        Check.fails(x, "score of " + told + ", " + came + ", " + n, x.score(told, came, n), status);
        Check.fails(x, "words of " + told + ", " + came + ", " + n, x.words(told, came, n), status);
    }

    private static void owed() {
        RoofGale none = new RoofGale();
        Check.fails(none, "no houses", none.owed(), 8);
        RoofGale x = Check.at(FOUR);
        Check.tells(x, "of several the first", x.owed(), 0);
        x.help(0, 2, 3);
        x.help(2, 1, 1);
        x.help(3, 1, 1);
        Check.tells(x, "of several the first", x.owed(), 1);
        x.help(3, 2, 1);
        Check.tells(x, "c", x.owed(), 2);
        x.gale(99);
        Check.tells(x, "what fell is owed still", x.owed(), 2);
    }

    private static void riders() {
        RoofGale x = Check.at(FOUR);
        Check.tells(x, "none", x.riders(), 0);
        x.help(0, 2, 3);
        x.help(3, 2, 1);
        Check.tells(x, "a and d", x.riders(), 9);
        x.help(1, 0, 1);
        Check.tells(x, "b and d", x.riders(), 10);
        RoofGale zero = Check.at(FOUR + "helped a by b 0;");
        Check.tells(zero, "0 times is never", zero.riders(), 0);
        Check.tells(new RoofGale(), "no houses", new RoofGale().riders(), 0);
    }

    private static void chain() {
        RoofGale x = Check.at(FOUR + "helped b by a 1;helped c by b 1;helped a by d 1;helped d by b 0;");
        Check.tells(x, "b, then c", x.chain(0), 6);
        Check.tells(x, "c", x.chain(1), 4);
        Check.tells(x, "none", x.chain(2), 0);
        Check.tells(x, "all others", x.chain(3), 7);
        x.help(0, 2, 1);
        Check.tells(x, "round, it not", x.chain(0), 6);
        Check.fails(x, "chain", x.chain(4), 2);
        Check.fails(x, "chain", x.chain(-1), 2);
    }

    private static void quits() {
        RoofGale x = Check.at(FOUR + "helped b by a 5;helped a by b 4;");
        Check.tells(x, "-1 with status 0", x.quits(0, 1), -1);
        Check.tells(x, "the other way", x.quits(1, 0), 1);
        Check.tells(x, "quits", x.quits(2, 3), 0);
        Check.fails(x, "2 ahead of 5", x.quits(4, 4), 2);
        Check.fails(x, "quits", x.quits(0, -1), 2);
        Check.fails(x, "quits", x.quits(3, 3), 5);
    }
}
