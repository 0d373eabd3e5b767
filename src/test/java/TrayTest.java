/** Promises 1 to 8. */
public final class TrayTest {
    public static void main(String[] args) {
        newObject();
        statusAndFraction();
        tray();
        writeAndRead();
        pour();
        Check.end("TrayTest");
    }

    private static void newObject() {
        RoofGale x = new RoofGale();
        Check.due("status", x.status(), 0);
        Check.due("top", x.top(), 0);
        Check.due("bottom", x.bottom(), 1);
        Check.due("fault 0", x.fault(0), -1);
        Check.due("fault 1", x.fault(1), -1);
        for (int t = 0; t < 4; t++) {
            Check.fails(x, "read of a missing tray", x.read(t, 0), 3);
        }
        for (int what = 0; what < 10; what++) {
            Check.tells(x, "many " + what, x.many(what), what == 3 ? 3 : 0);
        }
        Check.fails(x, "shore of an empty tape", x.shore(1), 5);
        Check.fails(x, "no years", x.live(0), 8);
        Check.fails(x, "no marks", x.back(), 8);
        Check.due("an empty tape", x.feed(0, 0, 0, 0, 0), 20);
    }

    private static void statusAndFraction() {
        RoofGale x = Check.at();
        Check.fails(x, "many 10", x.many(10), 5);
        x.fault(0);
        x.feed(1, 2, 3, 4, 5);
        x.top();
        x.bottom();
        Check.due("status stays behind calls that have none", x.status(), 5);
        Check.fraction(x, "risk", x.risk(1), 3, 5);
        Check.no(x, "risk of no house", x.risk(9), 2);
        Check.due("top stays", x.top(), 3);
        Check.due("bottom stays", x.bottom(), 5);
        Check.fraction(x, "below 0", x.saves(1, 0), 0, 1);
        Check.fraction(x, "saves less than rain", x.saves(9, 99), 81, 1);
        RoofGale y = Check.at("house a at 0 worth 1 pieces 1 weight 1;gang g of a hands 40;wind w 99 of 2;wind v 0 of 4;");
        Check.fraction(y, "below 0", y.saves(1, 1), -2, 3);
    }

    private static void tray() {
        RoofGale x = new RoofGale();
        Check.no(x, "tray -1", x.tray(-1, 0, 1), 1);
        Check.no(x, "tray 4", x.tray(4, 0, 1), 1);
        Check.no(x, "sort -1", x.tray(0, -1, 61), 1);
        Check.no(x, "sort 4", x.tray(0, 4, -1), 1);
        Check.no(x, "61 numbers", x.tray(0, 0, 61), 5);
        Check.no(x, "the most numbers", x.tray(0, 0, Integer.MAX_VALUE), 5);
        Check.no(x, "-1 numbers", x.tray(0, 0, -1), 6);
        Check.no(x, "the least numbers", x.tray(0, 0, Integer.MIN_VALUE), 6);
        Check.fails(x, "still missing", x.read(0, 0), 3);
        Check.yes(x, "no numbers", x.tray(0, 0, 0));
        Check.fails(x, "has no place", x.read(0, 0), 4);
        Check.yes(x, "60 numbers", x.tray(3, 3, 60));
        Check.tells(x, "all 0", x.read(3, 59), 0);
        x.write(3, 59, 7);
        x.write(3, 0, 7);
        Check.no(x, "a wrong tray", x.tray(3, 3, 61), 5);
        Check.tells(x, "changes nothing", x.read(3, 59), 7);
        Check.yes(x, "again", x.tray(3, 2, 60));
        Check.tells(x, "all 0 again", x.read(3, 59), 0);
        Check.tells(x, "from the first on", x.read(3, 0), 0);
    }

    private static void writeAndRead() {
        RoofGale x = new RoofGale();
        long[] cut = {(byte) 0x1122334455667788L, (short) 0x1122334455667788L, 0x55667788, 0x1122334455667788L};
        for (int sort = 0; sort < 4; sort++) {
            x.tray(sort, sort, 3);
            Check.yes(x, "write", x.write(sort, 2, 0x1122334455667788L));
            Check.tells(x, "cut by sort " + sort, x.read(sort, 2), cut[sort]);
            Check.tells(x, "the place ahead", x.read(sort, 1), 0);
            Check.yes(x, "write -1", x.write(sort, 0, -1));
            Check.tells(x, "-1 with status 0", x.read(sort, 0), -1);
        }
        x.write(0, 0, 128);
        Check.tells(x, "with sign", x.read(0, 0), -128);
        x.write(1, 0, 65535);
        Check.tells(x, "with sign", x.read(1, 0), -1);
        x.write(2, 0, 1L << 31);
        Check.tells(x, "with sign", x.read(2, 0), Integer.MIN_VALUE);
        Check.no(x, "write", x.write(4, 0, 0), 1);
        Check.no(x, "write", x.write(0, 3, 0), 4);
        Check.no(x, "write", x.write(0, -1, 0), 4);
        Check.no(x, "write", x.write(0, Integer.MAX_VALUE, 0), 4);
        Check.fails(x, "read", x.read(-1, 0), 1);
        Check.fails(x, "read", x.read(0, 3), 4);
        Check.fails(x, "read", x.read(0, Integer.MIN_VALUE), 4);
        RoofGale y = new RoofGale();
        Check.no(y, "write to a missing tray", y.write(2, 99, 0), 3);
    }

    private static void pour() {
        RoofGale x = new RoofGale();
        Check.no(x, "pour: 1 ahead of 3", x.pour(0, 0, 4, 0, -1), 1);
        Check.no(x, "pour: 1", x.pour(-1, 0, 0, 0, 0), 1);
        x.tray(0, 1, 6);
        Check.no(x, "pour: 3, the second", x.pour(0, 0, 1, 0, -1), 3);
        Check.no(x, "pour: 3, the first", x.pour(1, 0, 0, 0, -1), 3);
        x.tray(1, 2, 6);
        Check.no(x, "pour: 11 ahead of 6", x.pour(0, 0, 1, 0, -1), 11);
        x.tray(1, 1, 4);
        Check.no(x, "pour: 6 ahead of 4", x.pour(0, -1, 1, 9, -1), 6);
        for (int i = 0; i < 6; i++) {
            x.write(0, i, i + 1);
        }
        Check.no(x, "pour: 4", x.pour(0, 2, 1, 0, 5), 4);
        Check.no(x, "pour: 4", x.pour(0, 0, 1, 0, 5), 4);
        Check.no(x, "pour: 4", x.pour(0, 0, 1, 3, 2), 4);
        Check.no(x, "pour: 4", x.pour(0, -1, 1, 0, 2), 4);
        Check.no(x, "pour: 4", x.pour(0, 0, 1, -1, 2), 4);
        Check.no(x, "pour: 4", x.pour(0, Integer.MAX_VALUE, 1, 0, Integer.MAX_VALUE), 4);
        Check.no(x, "pour: 4", x.pour(0, 1, 1, 0, Integer.MAX_VALUE), 4);
        Check.yes(x, "pour nothing", x.pour(0, 6, 1, 4, 0));
        Check.tells(x, "nothing came", x.read(1, 0), 0);
        Check.yes(x, "pour", x.pour(0, 1, 1, 2, 2));
        Check.tells(x, "poured", x.read(1, 2), 2);
        Check.tells(x, "poured", x.read(1, 3), 3);
        Check.tells(x, "the first stays", x.read(0, 1), 2);
        Check.yes(x, "pour onto itself", x.pour(0, 0, 0, 1, 5));
        for (int i = 1; i < 6; i++) {
            Check.tells(x, "as they were", x.read(0, i), i);
        }
        Check.yes(x, "pour onto itself", x.pour(0, 1, 0, 0, 5));
        for (int i = 0; i < 5; i++) {
            Check.tells(x, "as they were", x.read(0, i), i + 1);
        }
    }
}
