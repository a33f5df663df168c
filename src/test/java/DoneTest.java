/** Promises 22 to 32: what is done, and MONTHS ahead. */
public final class DoneTest {
    private static final String ALL = " in 0 1 2 3 4 5 6 7 8 9 10 11;";

    public static void main(String[] args) {
        months();
        late();
        carries();
        debts();
        rights();
        rules();
        ahead();
        fewerThanBefore();
        Due.end();
    }

    private static void months() {
        DitchSaint x = Due.with(Due.PARISH);
        Due.not(x, "22 0", x.month(0), 5);
        Due.not(x, "22 100", x.month(100), 5);
        Due.not(x, "22 -1", x.month(-1), 5);
        Due.is(x, "22 two", x.month(2), 30);
        Due.is(x, "22 west here in 2", x.month(1), 34);
        Due.is(x, "22 east away in 6 7", x.month(5), 34 + 12 + 4);
        Due.is(x, "22 west late in 8 9", x.month(4), 34 + 12 + 4 + 6);
        Due.is(x, "22 a year", x.month(12), 34 + 12 + 4 + 6 + 26);
        Due.is(x, "22 month", x.many(9), 24);
        Due.is(x, "22 both lapsed", x.many(10), 2);

        DitchSaint y = Due.with("chest east 999;right east here worth 50" + ALL + "right east here worth 50" + ALL + "right west away worth 1 in 0;");
        for (int i = 0; i < 100; i++) {
            y.month(99);
        }
        Due.is(y, "22 month", y.many(9), 9900);
        Due.is(y, "22 full", y.chest(0), 9999);
        Due.is(y, "22 not full", y.chest(1), 825);
        Due.is(y, "22 to 9,999", y.month(98), 9999 + 834);
        Due.not(y, "22 above 9,999", y.month(2), 7);
        Due.is(y, "22 nothing went by", y.many(9), 9998);
        Due.not(y, "22 5 first", y.month(100), 5);
        Due.is(y, "22 the last", y.month(1), 9999 + 834);
        Due.not(y, "22 none more", y.month(1), 7);
        Due.is(y, "32 beyond", y.bears(), 3);
        Due.is(y, "30 beyond", y.chestIn(1, 10), 835);
    }

    private static void late() {
        for (int lag = 1; lag <= 6; lag++) {
            DitchSaint x = Due.with("toll 0;lies west;right east late " + lag + " worth 1" + ALL);
            x.carry(1, 1);
            for (int i = 0; i < lag; i++) {
                Due.is(x, "22 not yet", x.month(1), 0);
            }
            Due.is(x, "32 late bears", x.bears(), 1);
            Due.is(x, "22 late " + lag, x.month(1), 1);
            x.carry(1, 1);
            Due.is(x, "22 still " + lag, x.month(lag), 1 + lag);
            Due.is(x, "22 no more", x.month(9), 1 + lag);
        }
    }

    private static void carries() {
        DitchSaint x = Due.with(Due.PARISH);
        Due.not(x, "23 0", x.carry(0, 0), 5);
        Due.not(x, "23 21", x.carry(1, 21), 5);
        Due.not(x, "23 21", x.carry(21, 1), 5);
        Due.not(x, "23 -1", x.carry(3, -1), 5);
        Due.not(x, "23 0 of east", x.carry(0, 1), 5);
        Due.not(x, "23 0 of west", x.carry(1, 0), 5);
        Due.not(x, "23 unlike", x.carry(3, 4), 9);
        Due.is(x, "23 to east", x.carry(1, 1), 0);
        Due.is(x, "23 who has him pays", x.chest(0), 7);
        Due.is(x, "23 the other does not", x.chest(1), 20);
        Due.is(x, "23 debts lapse", x.many(1), 0);
        Due.is(x, "23 lapsed", x.many(10), 2);
        Due.is(x, "23 carried", x.many(11), 1);
        Due.is(x, "23 to west", x.carry(20, 20), 1);
        Due.is(x, "23 the toll", x.chest(1), 17);
        x.rule(6, 7);
        Due.is(x, "23 just the toll", x.carry(2, 2), 0);
        Due.is(x, "23 empty", x.chest(0), 0);
        x.rule(6, 18);
        x.swear(1, 1, 1);
        Due.not(x, "23 no toll", x.carry(2, 2), 9);
        Due.is(x, "23 debts stay", x.many(1), 1);
        Due.is(x, "23 carried thrice", x.many(11), 3);
        DitchSaint y = Due.with("toll 0;");
        Due.is(y, "23 no toll at all", y.carry(1, 1), 1);
    }

    private static void debts() {
        DitchSaint x = Due.with(Due.PARISH);
        Due.not(x, "24 side", x.swear(2, 0, 0), 2);
        Due.not(x, "24 sum 0", x.swear(0, 0, 1), 5);
        Due.not(x, "24 sum 100", x.swear(0, 100, 1), 5);
        Due.not(x, "24 left 0", x.swear(0, 1, 0), 5);
        Due.not(x, "24 left 25", x.swear(0, 1, 25), 5);
        Due.is(x, "24", x.swear(0, 99, 24), 3);
        Due.is(x, "24", x.swear(1, 1, 1), 4);
        Due.is(x, "24", x.swear(1, 20, 3), 5);
        Due.not(x, "24 a sixth", x.swear(0, 1, 1), 7);
        Due.not(x, "24 5 first", x.swear(0, 1, 99), 5);
        Due.is(x, "24 side", x.debt(2, 0), 0);
        Due.is(x, "24 sum", x.debt(2, 1), 99);
        Due.is(x, "24 left", x.debt(2, 2), 24);

        Due.not(x, "25 5", x.pay(5), 2);
        Due.not(x, "25 -1", x.pay(-1), 2);
        Due.not(x, "25 not enough", x.pay(1), 9);
        Due.is(x, "25 just enough", x.pay(4), 0);
        Due.is(x, "25 to the other", x.chest(0), 30);
        Due.is(x, "25 east", x.pay(0), 23);
        Due.is(x, "25 to the other", x.chest(1), 7);
        Due.is(x, "25 gone", x.many(1), 3);
        Due.is(x, "25 a number less", x.debt(0, 1), 30);
        Due.is(x, "25 did not lapse", x.many(10), 0);
        x.month(1);
        Due.is(x, "22 one lapsed", x.many(10), 1);
        Due.is(x, "22 left", x.debt(1, 2), 23);
        Due.is(x, "22 left", x.debt(0, 2), 4);
        Due.is(x, "22 two", x.many(1), 2);

        DitchSaint y = Due.with("right east here worth 50" + ALL + "right east here worth 50" + ALL + "chest west 99;");
        y.month(99);
        y.month(1);
        Due.is(y, "22 9,999", y.chest(0), 9999);
        y.swear(1, 50, 1);
        Due.is(y, "25 paid", y.pay(0), 49);
        Due.is(y, "25 9,999 at most", y.chest(0), 9999);
    }

    private static void rights() {
        DitchSaint x = Due.with(Due.PARISH);
        Due.not(x, "26 4", x.price(4, 0), 2);
        Due.not(x, "26 -1", x.price(-1, 1), 2);
        Due.not(x, "26 0", x.price(0, 0), 5);
        Due.not(x, "26 51", x.price(0, 51), 5);
        Due.is(x, "26 50", x.price(0, 50), 5);
        Due.is(x, "26 1", x.price(0, 1), 50);
        Due.is(x, "26 worth", x.right(0, 3), 1);

        Due.not(x, "27 4", x.grant(4, 12, true), 2);
        Due.not(x, "27 12", x.grant(0, 12, true), 5);
        Due.not(x, "27 -1", x.grant(0, -1, false), 5);
        Due.not(x, "27 it is so", x.grant(0, 2, true), 9);
        Due.not(x, "27 it is not so", x.grant(0, 3, false), 9);
        Due.yes(x, "27 is", x.grant(0, 11, true));
        Due.yes(x, "27 is not", x.grant(0, 0, false));
        Due.is(x, "27 months", x.right(0, 4), 2048 + 6);

        Due.not(x, "28 side", x.claim(2, 9, 9, 99, -1), 2);
        Due.not(x, "28 kind 3", x.claim(0, 3, 0, 1, 0), 5);
        Due.not(x, "28 kind -1", x.claim(0, -1, 0, 1, 0), 5);
        Due.not(x, "28 here, lag 1", x.claim(0, 0, 1, 1, 0), 5);
        Due.not(x, "28 away, lag -1", x.claim(0, 1, -1, 1, 0), 5);
        Due.not(x, "28 late, lag 0", x.claim(0, 2, 0, 1, 0), 5);
        Due.not(x, "28 late, lag 7", x.claim(0, 2, 7, 1, 0), 5);
        Due.not(x, "28 worth 0", x.claim(0, 0, 0, 0, 0), 5);
        Due.not(x, "28 worth 51", x.claim(0, 0, 0, 51, 0), 5);
        Due.not(x, "28 months 4096", x.claim(0, 0, 0, 1, 4096), 5);
        Due.not(x, "28 months -1", x.claim(0, 0, 0, 1, -1), 5);
        Due.is(x, "28 late", x.claim(1, 2, 6, 50, 4095), 4);
        int[] due = {1, 2, 6, 50, 4095};
        for (int i = 0; i < 5; i++) {
            Due.is(x, "28 right", x.right(4, i), due[i]);
        }
        Due.is(x, "28 here", x.claim(0, 0, 0, 1, 0), 5);
        Due.not(x, "28 has no lag", x.right(5, 2), 8);
        Due.is(x, "28 late by 1", x.claim(0, 2, 1, 1, 0), 6);
        Due.is(x, "28 the eighth", x.claim(0, 1, 0, 1, 0), 7);
        Due.not(x, "28 a ninth", x.claim(0, 1, 0, 1, 0), 7);
        Due.not(x, "28 5 first", x.claim(0, 1, 0, 0, 0), 5);
        Due.is(x, "28 eight", x.many(0), 8);
    }

    private static void rules() {
        DitchSaint x = new DitchSaint();
        int[] most = {16, 99, 99};
        for (int what = 5; what <= 7; what++) {
            Due.not(x, "29 -1", x.rule(what, -1), 5);
            Due.not(x, "29 too much", x.rule(what, most[what - 5] + 1), 5);
            Due.yes(x, "29 most", x.rule(what, most[what - 5]));
            Due.is(x, "29 is so", x.many(what), most[what - 5]);
            Due.yes(x, "29 0", x.rule(what, 0));
            Due.is(x, "29 is 0", x.many(what), 0);
        }
        Due.not(x, "29 4", x.rule(4, 1), 5);
        Due.not(x, "29 8", x.rule(8, 1), 5);
        Due.not(x, "29 -1", x.rule(-1, 1), 5);
    }

    /** What an earlier PARISH had more of must not be there any longer. */
    private static void fewerThanBefore() {
        StringBuilder eight = new StringBuilder();
        for (int i = 0; i < 8; i++) {
            eight.append("right east here worth 1").append(ALL);
        }
        DitchSaint x = Due.with(eight.toString());
        Due.is(x, "32 all eight", x.bears(), 255);
        Due.is(x, "22 all eight", x.month(1), 8);
        Due.is(x, "30 all eight", x.chestIn(0, 2), 24);
        Due.parish(x, "right east here worth 1" + ALL);
        Due.is(x, "32 one", x.bears(), 1);
        Due.is(x, "22 one", x.month(1), 1);
        Due.is(x, "30 one", x.chestIn(0, 2), 3);
        Due.is(x, "33 one", x.gain(0, 4095), 12);
        Due.parish(x, "ask a;ask    b;");
        Due.parish(x, "ask a;clause b;");
        Due.is("10 b is not told", x.fault(0), 3);
    }

    private static void ahead() {
        DitchSaint x = Due.with(Due.PARISH);
        Due.not(x, "30 side", x.chestIn(2, 61), 2);
        Due.not(x, "30 61", x.chestIn(0, 61), 5);
        Due.not(x, "30 -1", x.chestIn(0, -1), 5);
        Due.is(x, "31 now", x.tollIn(), 0);
        x.rule(6, 12);
        Due.is(x, "31 in 7", x.tollIn(), 7);
        x.carry(5, 5);
        x.rule(6, 99);
        Due.is(x, "32 none", x.bears(), 0);
        int[][] due = new int[61][2];
        int toll = -1;
        for (int i = 0; i <= 60; i++) {
            for (int side = 0; side < 2; side++) {
                due[i][side] = x.chestIn(side, i);
            }
            toll = toll < 0 && due[i][0] >= 99 ? i : toll;
        }
        Due.is("31 never so far", toll, -1);
        Due.not(x, "31 in none", x.tollIn(), 8);
        Due.is(x, "30 changes nothing", x.many(9), 0);
        Due.is(x, "30 debts stay", x.many(1), 2);
        for (int i = 0; i <= 60; i++) {
            Due.is(x, "30 east in " + i, x.chest(0), due[i][0]);
            Due.is(x, "30 west in " + i, x.chest(1), due[i][1]);
            x.month(1);
        }

        DitchSaint y = Due.with("toll 60;right west away worth 1" + ALL);
        Due.is(y, "31 in 60", y.tollIn(), 60);
        y.rule(6, 61);
        Due.not(y, "31 in 61", y.tollIn(), 8);

        DitchSaint z = Due.with("lies west;chest west 999;right west here worth 50" + ALL + "right west late 1 worth 50" + ALL
                + "right west here worth 50" + ALL + "right east here worth 1" + ALL + "right east away worth 1 in 0 3;");
        Due.is(z, "32", z.bears(), 1 + 2 + 4 + 16);
        Due.is(z, "30 9,999 at most", z.chestIn(1, 60), 9999);
        Due.is(z, "30 the chest told", z.chestIn(1, 0), 999);
        z.month(1);
        Due.is(z, "32 next", z.bears(), 7);
    }
}
