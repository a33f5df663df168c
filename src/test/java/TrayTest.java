/** Promises 5 to 8, 21. */
public final class TrayTest {
    public static void main(String[] args) {
        made();
        written();
        poured();
        worths();
        Due.end();
    }

    private static void made() {
        DitchSaint x = new DitchSaint();
        Due.not(x, "5 tray -1", x.tray(-1, 0, 1), 1);
        Due.not(x, "5 tray 4", x.tray(4, 0, 1), 1);
        Due.not(x, "5 sort -1", x.tray(0, -1, 1), 1);
        Due.not(x, "5 sort 4", x.tray(0, 4, 61), 1);
        Due.not(x, "5 many 61", x.tray(0, 0, 61), 5);
        Due.not(x, "5 many -1", x.tray(0, 0, -1), 6);
        Due.not(x, "5 least many", x.tray(0, 0, Integer.MIN_VALUE), 6);
        Due.not(x, "5 still missing", x.read(0, 0), 3);
        Due.yes(x, "5 many 60", x.tray(0, 0, 60));
        Due.yes(x, "5 write", x.write(0, 59, 7));
        Due.yes(x, "5 write", x.write(0, 0, 8));
        Due.yes(x, "5 many 0", x.tray(1, 3, 0));
        Due.not(x, "5 no place", x.read(1, 0), 4);
        Due.yes(x, "5 made again", x.tray(0, 2, 60));
        Due.is(x, "5 all 0", x.read(0, 59), 0);
        Due.is(x, "5 the first, too", x.read(0, 0), 0);
    }

    private static void written() {
        DitchSaint x = new DitchSaint();
        long[] cut = {(byte) 0x1234567890abcdefL, (short) 0x1234567890abcdefL, (int) 0x1234567890abcdefL, 0x1234567890abcdefL};
        for (int sort = 0; sort < 4; sort++) {
            x.tray(sort, sort, 3);
            Due.yes(x, "6 write", x.write(sort, 1, 0x1234567890abcdefL));
            Due.is(x, "6 cut", x.read(sort, 1), cut[sort]);
            Due.is(x, "7 ahead", x.read(sort, 0), 0);
            Due.is(x, "7 behind", x.read(sort, 2), 0);
            x.write(sort, 2, -1);
            Due.is(x, "7 -1", x.read(sort, 2), -1);
        }
        x.write(0, 0, 128);
        Due.is(x, "6 sign", x.read(0, 0), -128);
        Due.not(x, "6 place 3", x.write(0, 3, 1), 4);
        Due.not(x, "6 place -1", x.write(0, -1, 1), 4);
        Due.not(x, "6 tray 4", x.write(4, 0, 1), 1);
        Due.not(x, "7 place 3", x.read(0, 3), 4);
        Due.not(x, "7 place -1", x.read(0, -1), 4);
        Due.not(x, "7 tray -1", x.read(-1, 0), 1);
        DitchSaint y = new DitchSaint();
        Due.not(y, "6 missing", y.write(2, 90, 1), 3);
        Due.not(y, "7 missing", y.read(2, 90), 3);
    }

    private static void poured() {
        DitchSaint x = new DitchSaint();
        x.tray(0, 1, 6);
        x.tray(1, 1, 4);
        x.tray(2, 2, 6);
        for (int i = 0; i < 6; i++) {
            x.write(0, i, i + 1);
        }
        Due.not(x, "8 from", x.pour(4, 0, 0, 0, 1), 1);
        Due.not(x, "8 to", x.pour(0, 0, -1, 0, 1), 1);
        Due.not(x, "8 missing", x.pour(0, 0, 3, 0, -1), 3);
        Due.not(x, "8 missing from", x.pour(3, 0, 0, 0, 1), 3);
        Due.not(x, "8 no tray ahead of missing", x.pour(3, 0, 4, 0, 1), 1);
        Due.not(x, "8 unlike ahead of below 0", x.pour(0, 0, 2, 0, -1), 11);
        Due.not(x, "8 below 0 ahead of places", x.pour(0, -9, 1, 0, -1), 6);
        Due.not(x, "8 i", x.pour(0, -1, 1, 0, 1), 4);
        Due.not(x, "8 j", x.pour(0, 0, 1, -1, 1), 4);
        Due.not(x, "8 too few from", x.pour(0, 4, 1, 0, 3), 4);
        Due.not(x, "8 too few to", x.pour(0, 0, 1, 2, 3), 4);
        Due.not(x, "8 most", x.pour(0, 5, 1, 0, Integer.MAX_VALUE), 4);
        Due.not(x, "8 far", x.pour(0, Integer.MAX_VALUE, 1, 0, 1), 4);
        Due.yes(x, "8 none", x.pour(0, 0, 1, 0, 0));
        Due.yes(x, "8 none at the end", x.pour(0, 6, 1, 4, 0));
        Due.yes(x, "8", x.pour(0, 2, 1, 1, 3));
        row(x, 1, 0, 3, 4, 5);
        Due.yes(x, "8 same, up", x.pour(0, 0, 0, 2, 4));
        row(x, 0, 1, 2, 1, 2, 3, 4);
        Due.yes(x, "8 same, down", x.pour(0, 2, 0, 1, 4));
        row(x, 0, 1, 1, 2, 3, 4, 4);
        Due.yes(x, "8 all", x.pour(0, 0, 0, 0, 6));
        row(x, 0, 1, 1, 2, 3, 4, 4);
    }

    private static void worths() {
        DitchSaint x = Due.with(Due.PARISH);
        Due.not(x, "21 tray", x.copyWorth(4), 1);
        Due.not(x, "21 missing", x.copyWorth(0), 3);
        x.tray(0, 0, 3);
        Due.not(x, "21 too few", x.copyWorth(0), 4);
        row(x, 0, 0, 0, 0);
        x.tray(0, 0, 5);
        x.write(0, 4, 9);
        Due.is(x, "21", x.copyWorth(0), 4);
        row(x, 0, 5, 4, 2, 3, 9);
        x.tray(1, 3, 4);
        x.price(3, 50);
        Due.is(x, "21 as many", x.copyWorth(1), 4);
        row(x, 1, 5, 4, 2, 50);
        DitchSaint y = new DitchSaint();
        y.tray(3, 2, 0);
        Due.is(y, "21 none", y.copyWorth(3), 0);
    }

    private static void row(DitchSaint x, int tray, long... due) {
        for (int i = 0; i < due.length; i++) {
            Due.is(x, "tray " + tray + " place " + i, x.read(tray, i), due[i]);
        }
    }
}
