/** Edges of MONTHS going by, promises 22 and 30 to 32: the year's wrap-around, full CHESTS, the last MONTH. */
public final class MonthEdgeTest {
    private static final String ALL = " in 0 1 2 3 4 5 6 7 8 9 10 11;";

    public static void main(String[] args) {
        oneTo99();
        to9999();
        above9999();
        monthOfTheYear();
        whichBears();
        lateByEachLag();
        lateAheadOfTheFirst();
        carriedWithinAMonth();
        chestOf9999();
        bothChestsFull();
        capOfOneMonth();
        aheadBy0To60();
        aheadChangesNothing();
        aheadOfAFullChest();
        aheadBeyond9999();
        tollIn0();
        tollIn60();
        tollInNone();
        tollOfTheOtherSide();
        tollBeyond9999();
        bearsOfNone();
        bearsOfAll();
        at512Calls();
        Due.end();
    }

    /** An object in this MONTH (a multiple of 99 and some more). */
    private static DitchSaint inMonth(String text, int month) {
        DitchSaint x = Due.with(text);
        for (int left = month; left > 0; left -= 99) {
            x.month(Math.min(left, 99));
        }
        Due.is(x, "22 month", x.many(9), month);
        return x;
    }

    private static void oneTo99() {
        for (int months : new int[] {Integer.MIN_VALUE, -1, 0, 100, Integer.MAX_VALUE}) {
            Refused.with(5, "22 months " + months, x -> x.month(months));
        }
        for (int months = 1; months <= 99; months++) {
            DitchSaint x = Due.with("right east here worth 2" + ALL + "right west away worth 3" + ALL);
            Due.is(x, "22 both chests behind " + months, x.month(months), 5 * months);
            Due.is(x, "22 months " + months, x.many(9), months);
        }
    }

    private static void to9999() {
        DitchSaint x = inMonth("right east here worth 1 in 2;", 9900);
        Due.is(x, "22 just to 9,999", x.month(99), 834);
        Due.is(x, "22 9,999", x.many(9), 9999);
        DitchSaint y = inMonth("", 9998);
        Due.is(y, "22 one to 9,999", y.month(1), 0);
        Due.is(y, "22 9,999", y.many(9), 9999);
    }

    private static void above9999() {
        Refused.with(7, "22 above 9,999", () -> inMonth("right east here worth 1 in 2;debt east sum 1 left 1;", 9901), x -> x.month(99));
        Refused.with(7, "22 one above 9,999", () -> inMonth("right east here worth 1" + ALL, 9999), x -> x.month(1));
        Refused.with(5, "22 5 ahead of 7", () -> inMonth("", 9999), x -> x.month(100));
        Refused.with(5, "22 5 ahead of 7", () -> inMonth("", 9999), x -> x.month(0));
        DitchSaint x = inMonth("", 9901);
        Due.not(x, "22 above 9,999", x.month(99), 7);
        Due.is(x, "22 fewer are fine", x.month(98), 0);
    }

    private static void monthOfTheYear() {
        for (int month = 0; month < 12; month++) {
            DitchSaint x = Due.with("right east here worth 1 in " + month + ";");
            int due = 0;
            for (int i = 0; i < 38; i++) {
                boolean is = i == month || i == month + 12 || i == month + 24 || i == month + 36;
                due += is ? 1 : 0;
                Due.is(x, "32 of month " + month + " in " + i, x.bears(), is ? 1 : 0);
                Due.is(x, "22 of month " + month + " in " + i, x.month(1), due);
            }
        }
    }

    private static void whichBears() {
        String[] sides = {"east", "west"};
        for (int lies = 0; lies < 2; lies++) {
            for (int side = 0; side < 2; side++) {
                DitchSaint x = Due.with("lies " + sides[lies] + ";right " + sides[side] + " here worth 1" + ALL
                        + "right " + sides[side] + " away worth 2" + ALL + "right " + sides[side] + " late 1 worth 4" + ALL);
                int due = lies == side ? 1 + 4 : 2;
                Due.is(x, "32 of " + side + ", he lies in " + lies, x.bears(), due);
                Due.is(x, "22 of " + side + ", he lies in " + lies, x.month(1), due);
                Due.is(x, "22 to that chest", x.chest(side), due);
            }
        }
    }

    private static void lateByEachLag() {
        for (int lag = 1; lag <= 6; lag++) {
            DitchSaint x = Due.with("toll 0;right west late " + lag + " worth 1" + ALL);
            x.month(7);
            x.carry(1, 1);
            for (int i = 0; i < 10; i++) {
                // one MONTH in west, the eighth, then in east again
                Due.is(x, "32 late " + lag + ", " + i + " later", x.bears(), i == lag ? 1 : 0);
                Due.is(x, "22 late " + lag + ", " + i + " later", x.month(1), i >= lag ? 1 : 0);
                if (i == 0) {
                    x.carry(1, 1);
                }
            }
        }
    }

    private static void lateAheadOfTheFirst() {
        for (int lag = 1; lag <= 6; lag++) {
            DitchSaint x = Due.with("toll 0;lies west;right west late " + lag + " worth 1" + ALL + "right east late " + lag + " worth 1" + ALL);
            x.carry(1, 1);
            for (int i = 0; i < 8; i++) {
                Due.is(x, "32 where the text said, " + i, x.bears(), i < lag ? 1 : 2);
                x.month(1);
            }
            Due.is(x, "22 west", x.chest(1), lag);
            Due.is(x, "22 east", x.chest(0), 8 - lag);
        }
    }

    private static void carriedWithinAMonth() {
        DitchSaint x = Due.with("toll 0;right west late 1 worth 1" + ALL);
        x.carry(1, 1);
        x.carry(1, 1);
        x.month(1);
        Due.is(x, "32 he lay where he was in the end", x.bears(), 0);
        x.carry(1, 1);
        x.month(1);
        Due.is(x, "32 he lay in west", x.bears(), 1);
    }

    private static void chestOf9999() {
        DitchSaint x = inMonth("chest east 999;right east here worth 50" + ALL, 179);
        Due.is(x, "22 not yet", x.chest(0), 9949);
        Due.is(x, "22 just 9,999", x.month(1), 9999);
        Due.is(x, "22 no more", x.month(1), 9999);
        DitchSaint y = inMonth("lies west;chest west 999;right west here worth 49" + ALL, 183);
        Due.is(y, "22 not yet", y.chest(1), 9966);
        Due.is(y, "22 9,999 at most", y.month(1), 9999);
        Due.is(y, "22 the other is as it was", y.chest(0), 0);
    }

    private static void bothChestsFull() {
        DitchSaint x = Due.with("right east here worth 50" + ALL + "right west away worth 50" + ALL + "right east here worth 50" + ALL);
        x.month(99);
        Due.is(x, "22 one of them", x.month(1), 9999 + 5000);
        x.month(99);
        Due.is(x, "22 both", x.month(1), 2 * 9999);
    }

    private static void capOfOneMonth() {
        StringBuilder text = new StringBuilder("chest east 999;");
        for (int i = 0; i < 8; i++) {
            text.append("right east here worth 50").append(ALL);
        }
        DitchSaint x = Due.with(text.toString());
        Due.is(x, "22 eight of 50", x.month(22), 999 + 22 * 400);
        Due.is(x, "22 four of them are left out", x.month(1), 9999);
    }

    private static void aheadBy0To60() {
        for (int months : new int[] {Integer.MIN_VALUE, -1, 61, Integer.MAX_VALUE}) {
            Refused.with(5, "30 months " + months, x -> x.chestIn(0, months));
            Refused.with(2, "30 side ahead of months " + months, x -> x.chestIn(2, months));
        }
        DitchSaint x = Due.with("chest east 7;right east here worth 2" + ALL + "right west away worth 3 in 0 11;");
        for (int months = 0; months <= 60; months++) {
            Due.is(x, "30 east in " + months, x.chestIn(0, months), 7 + 2 * months);
            Due.is(x, "30 west in " + months, x.chestIn(1, months), 3 * (months / 12 + (months + 11) / 12));
        }
    }

    private static void aheadChangesNothing() {
        DitchSaint x = Refused.busy();
        x.chestIn(0, 60);
        x.chestIn(1, 60);
        x.tollIn();
        x.bears();
        Due.yes("30 31 32 change nothing", Look.through(x).equals(Look.through(Refused.busy())));
    }

    private static void aheadOfAFullChest() {
        DitchSaint x = inMonth("chest east 999;right east here worth 50" + ALL, 179);
        Due.is(x, "30 now", x.chestIn(0, 0), 9949);
        Due.is(x, "30 just full", x.chestIn(0, 1), 9999);
        Due.is(x, "30 a chest has 9,999 at most", x.chestIn(0, 2), 9999);
        Due.is(x, "30 and in 60", x.chestIn(0, 60), 9999);
    }

    private static void aheadBeyond9999() {
        DitchSaint x = inMonth("right west away worth 1 in 3;", 9999);
        Due.is(x, "30 now", x.chestIn(1, 0), 833);
        Due.is(x, "30 month 9,999 is the third of its year", x.chestIn(1, 1), 834);
        Due.is(x, "30 beyond, too", x.chestIn(1, 60), 838);
        Due.is(x, "30 none went by", x.many(9), 9999);
        Due.is(x, "32 beyond, too", x.bears(), 1);
    }

    private static void tollIn0() {
        DitchSaint x = Due.with("toll 3;chest west 3;");
        Due.is(x, "31 just the toll", x.tollIn(), 0);
        DitchSaint y = Due.with("toll 0;");
        Due.is(y, "31 no toll", y.tollIn(), 0);
        DitchSaint z = Due.with("toll 3;chest west 2;right west away worth 1" + ALL);
        Due.is(z, "31 one too few", z.tollIn(), 1);
    }

    private static void tollIn60() {
        DitchSaint x = Due.with("toll 59;right west away worth 1" + ALL);
        Due.is(x, "31 in 59", x.tollIn(), 59);
        x.rule(6, 60);
        Due.is(x, "31 in 60", x.tollIn(), 60);
        Refused.with(8, "31 in 61", () -> Due.with("toll 61;right west away worth 1" + ALL), y -> y.tollIn());
    }

    private static void tollInNone() {
        Refused.with(8, "31 never", () -> Due.with("toll 1;chest east 99;"), x -> x.tollIn());
        Refused.with(8, "31 a new one", DitchSaint::new, x -> x.tollIn());
    }

    private static void tollOfTheOtherSide() {
        DitchSaint x = Due.with("toll 5;lies west;chest west 99;right east away worth 1" + ALL);
        Due.is(x, "31 he lies in west: east pays", x.tollIn(), 5);
        DitchSaint y = Due.with("toll 5;lies east;chest east 99;right west away worth 1" + ALL);
        Due.is(y, "31 he lies in east: west pays", y.tollIn(), 5);
    }

    private static void tollBeyond9999() {
        DitchSaint x = inMonth("toll 0;", 9999);
        x.claim(1, 1, 0, 1, 4095);
        x.rule(6, 60);
        Due.is(x, "31 beyond, too", x.tollIn(), 60);
        x.rule(6, 61);
        Due.not(x, "31 in none", x.tollIn(), 8);
    }

    private static void bearsOfNone() {
        DitchSaint x = new DitchSaint();
        Due.is(x, "32 no rights", x.bears(), 0);
        x.claim(1, 0, 0, 1, 4095);
        Due.is(x, "32 none bears", x.bears(), 0);
        x.claim(0, 0, 0, 1, 4094);
        Due.is(x, "32 not in this month", x.bears(), 0);
    }

    private static void bearsOfAll() {
        DitchSaint x = new DitchSaint();
        for (int i = 0; i < 8; i++) {
            x.claim(0, 0, 0, 1, i % 2 == 0 ? 1 : 2048);
        }
        Due.is(x, "32 in month 0", x.bears(), 0x55);
        x.month(11);
        Due.is(x, "32 in month 11", x.bears(), 0xaa);
        x.month(1);
        Due.is(x, "32 in month 12", x.bears(), 0x55);
    }

    /** The last of the calls that an object is used for is answered like the first. */
    private static void at512Calls() {
        DitchSaint x = new DitchSaint();
        x.claim(0, 0, 0, 1, 1);
        for (int i = 0; i < 510; i++) {
            x.month(19);
        }
        Due.is("1 the 512th call", x.chest(0), (510 * 19 + 11) / 12);
    }
}
