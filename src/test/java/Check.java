import java.nio.charset.StandardCharsets;

/** What the tests share: each answer that is not the one due is printed, and the test ends with 1 then. */
final class Check {
    static final String SHORE = "house ann at 0 worth 100 pieces 2 weight 5;"
            + "house bob at 4 worth 300 pieces 1 weight 9 long 6 pegs 1;"
            + "house cid at 10 worth 50 pieces 3 weight 2 long 2;"
            + "house dan at 6 worth 300 pieces 1 weight 20 pegs 9;"
            + "gang red of ann hands 8;gang blu of cid hands 4 pace 2;"
            + "helped ann by bob 3;helped cid by ann 1;"
            + "wind gust 18 of 4;wind blow 30 of 5;wind storm 60 of 1;law worth;";

    private static int wrong;
    private static int asked;

    private Check() {
    }

    static void due(String what, long got, long want) {
        asked++;
        if (got != want) {
            wrong++;
            System.out.println(what + " answered " + got + ", due is " + want);
        }
    }

    static void due(String what, boolean got, boolean want) {
        due(what, got ? 1 : 0, want ? 1 : 0);
    }

    /** An answer with STATUS 0. */
    static void tells(RoofGale x, String what, long got, long want) {
        due(what, got, want);
        due("status behind " + what, x.status(), 0);
    }

    static void yes(RoofGale x, String what, boolean got) {
        due(what, got, true);
        due("status behind " + what, x.status(), 0);
    }

    /** NONE with a STATUS. */
    static void fails(RoofGale x, String what, long got, int status) {
        due(what, got, RoofGale.NONE);
        due("status behind " + what, x.status(), status);
    }

    static void no(RoofGale x, String what, boolean got, int status) {
        due(what, got, false);
        due("status behind " + what, x.status(), status);
    }

    static void fraction(RoofGale x, String what, boolean got, long top, long bottom) {
        yes(x, what, got);
        due("top behind " + what, x.top(), top);
        due("bottom behind " + what, x.bottom(), bottom);
    }

    /** Feeds a text, filled up with blanks to whole calls: how many bytes it has itself. */
    static int feed(RoofGale x, String text) {
        byte[] bytes = text.getBytes(StandardCharsets.ISO_8859_1);
        for (int i = 0; i < bytes.length; i += 20) {
            int[] five = new int[5];
            for (int k = 0; k < 20; k++) {
                int b = i + k < bytes.length ? bytes[i + k] & 255 : ' ';
                five[k / 4] = five[k / 4] << 8 | b;
            }
            x.feed(five[0], five[1], five[2], five[3], five[4]);
        }
        return bytes.length;
    }

    static int shore(RoofGale x, String text) {
        return x.shore(feed(x, text));
    }

    static int years(RoofGale x, String text) {
        return x.years(feed(x, text));
    }

    static RoofGale at(String shore) {
        RoofGale x = new RoofGale();
        shore(x, shore);
        due("shore is taken: " + shore, x.status(), 0);
        return x;
    }

    static RoofGale at() {
        return at(SHORE);
    }

    static void shoreFault(String text, int fault, int place) {
        RoofGale x = at("house old at 1 worth 1 pieces 1 weight 1;");
        fails(x, "shore " + text, shore(x, text), 10);
        due("fault of " + text, x.fault(0), fault);
        due("place in " + text, x.fault(1), place);
        due("old shore stays behind " + text, x.many(0), 1);
    }

    static void yearsFault(String text, int fault, int place) {
        RoofGale x = at();
        years(x, "stop;");
        fails(x, "years " + text, years(x, text), 10);
        due("fault of " + text, x.fault(0), fault);
        due("place in " + text, x.fault(1), place);
        due("old years stay behind " + text, x.live(0), 1);
    }

    static void end(String test) {
        System.out.println(test + ": " + asked + " asked, " + wrong + " wrong");
        if (wrong != 0) {
            System.exit(1);
        }
    }
}
