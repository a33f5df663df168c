/** Edges of CARRY, SWEAR, PAY and of DEBTS that LAPSE, promises 23 to 25. */
public final class DebtEdgeTest {
    private static final String ALL = " in 0 1 2 3 4 5 6 7 8 9 10 11;";

    public static void main(String[] args) {
        carriersAre1To20();
        unlikeNumbers();
        justTheToll();
        noTollAtAll();
        whoPaysTheToll();
        carryLapsesAll();
        carriedInTheLastMonth();
        sumsAre1To99();
        leftIs1To24();
        atMostFiveDebts();
        roomAgain();
        paidJustEnough();
        paidOneTooFew();
        paidToAFullChest();
        paidLeavesNoGap();
        paidDidNotLapse();
        lapsesWithNoneLeft();
        severalLapseAtOnce();
        lapsedLeaveNoGap();
        Due.end();
    }

    private static void carriersAre1To20() {
        for (int number : new int[] {Integer.MIN_VALUE, -1, 0, 21, Integer.MAX_VALUE}) {
            Refused.with(5, "23 east " + number, x -> x.carry(number, 1));
            Refused.with(5, "23 west " + number, x -> x.carry(1, number));
            Refused.with(5, "23 both " + number, x -> x.carry(number, number));
        }
        for (int number = 1; number <= 20; number++) {
            DitchSaint x = Due.with("toll 0;");
            Due.is(x, "23 both " + number, x.carry(number, number), 1);
        }
        Refused.with(5, "23 5 ahead of 9", () -> Due.with("toll 99;"), x -> x.carry(21, 21));
    }

    private static void unlikeNumbers() {
        Refused.with(9, "23 one more of west", () -> Due.with("toll 0;debt east sum 1 left 9;"), x -> x.carry(1, 2));
        Refused.with(9, "23 one more of east", () -> Due.with("toll 0;debt east sum 1 left 9;"), x -> x.carry(20, 19));
        Refused.with(9, "23 as unlike as can be", () -> Due.with("toll 0;"), x -> x.carry(1, 20));
    }

    private static void justTheToll() {
        Refused.with(9, "23 one too few", () -> Due.with("toll 7;chest west 6;chest east 99;debt west sum 1 left 9;"), x -> x.carry(3, 3));
        DitchSaint x = Due.with("toll 7;chest west 7;chest east 99;");
        Due.is(x, "23 just the toll", x.carry(3, 3), 1);
        Due.is(x, "23 nothing is left", x.chest(1), 0);
        Due.is(x, "23 the other is as it was", x.chest(0), 99);
        DitchSaint y = Due.with("toll 99;chest west 100;");
        Due.is(y, "23 the most toll", y.carry(1, 1), 1);
        Due.is(y, "23 one is left", y.chest(1), 1);
    }

    private static void noTollAtAll() {
        DitchSaint x = Due.with("toll 0;");
        Due.is(x, "23 to west", x.carry(1, 1), 1);
        Due.is(x, "23 to east", x.carry(1, 1), 0);
        Due.is(x, "13 carried twice", x.many(11), 2);
        Due.is(x, "23 nothing is gone", x.chest(0) + x.chest(1), 0);
    }

    private static void whoPaysTheToll() {
        DitchSaint x = Due.with("toll 4;lies west;chest east 9;");
        Due.is(x, "23 to east", x.carry(5, 5), 0);
        Due.is(x, "23 east has paid", x.chest(0), 5);
        Refused.with(9, "23 west has not", () -> Due.with("toll 4;lies east;chest east 999;chest west 3;"), y -> y.carry(5, 5));
        Refused.with(9, "23 east has not", () -> Due.with("toll 4;lies west;chest west 999;chest east 3;"), y -> y.carry(5, 5));
    }

    private static void carryLapsesAll() {
        for (int many = 0; many <= 5; many++) {
            DitchSaint x = Due.with("toll 0;");
            for (int i = 0; i < many; i++) {
                x.swear(i % 2, 5, 24);
            }
            x.carry(1, 1);
            Due.is(x, "23 none is left of " + many, x.many(1), 0);
            Due.is(x, "23 lapsed", x.many(10), many);
            Due.is(x, "17 owes nothing", x.owes(0) + x.owes(1), 0);
        }
    }

    private static void carriedInTheLastMonth() {
        DitchSaint x = Due.with("toll 0;");
        for (int i = 0; i < 101; i++) {
            x.month(99);
        }
        Due.is(x, "22 the last month", x.many(9), 9999);
        Due.is(x, "23 carried in it", x.carry(1, 1), 1);
        Due.is(x, "24 sworn in it", x.swear(0, 1, 1), 1);
        Due.not(x, "25 not paid in it", x.pay(0), 9);
    }

    private static void sumsAre1To99() {
        for (int sum : new int[] {Integer.MIN_VALUE, -1, 0, 100, Integer.MAX_VALUE}) {
            Refused.with(5, "24 sum " + sum, x -> x.swear(0, sum, 1));
            Refused.with(2, "24 side ahead of sum " + sum, x -> x.swear(2, sum, 1));
        }
        for (int sum : new int[] {1, 2, 98, 99}) {
            DitchSaint x = new DitchSaint();
            Due.is(x, "24 sum " + sum, x.swear(1, sum, 1), 1);
            Due.is(x, "16 sum " + sum, x.debt(0, 1), sum);
        }
    }

    private static void leftIs1To24() {
        for (int left : new int[] {Integer.MIN_VALUE, -1, 0, 25, Integer.MAX_VALUE}) {
            Refused.with(5, "24 left " + left, x -> x.swear(0, 1, left));
            Refused.with(2, "24 side ahead of left " + left, x -> x.swear(-1, 1, left));
        }
        for (int left = 1; left <= 24; left++) {
            DitchSaint x = new DitchSaint();
            Due.is(x, "24 left " + left, x.swear(1, 1, left), 1);
            Due.is(x, "16 left " + left, x.debt(0, 2), left);
        }
    }

    private static DitchSaint fiveSworn() {
        DitchSaint x = Due.with("chest east 99;" + "debt east sum 1 left 9;".repeat(4), "stop;");
        x.swear(1, 9, 9);
        return x;
    }

    private static void atMostFiveDebts() {
        Refused.with(7, "24 a sixth", DebtEdgeTest::fiveSworn, x -> x.swear(0, 1, 1));
        Refused.with(7, "24 a sixth of the other", DebtEdgeTest::fiveSworn, x -> x.swear(1, 99, 24));
        Refused.with(5, "24 5 ahead of 7", DebtEdgeTest::fiveSworn, x -> x.swear(1, 0, 1));
        Refused.with(2, "24 2 ahead of 7", DebtEdgeTest::fiveSworn, x -> x.swear(2, 1, 1));
        DitchSaint x = new DitchSaint();
        for (int many = 1; many <= 5; many++) {
            Due.is(x, "24 how many", x.swear(0, 1, 1), many);
        }
    }

    private static void roomAgain() {
        DitchSaint x = fiveSworn();
        Due.is(x, "25 one is paid", x.pay(0), 98);
        Due.is(x, "24 a fifth again", x.swear(0, 1, 1), 5);
        Due.not(x, "24 no sixth", x.swear(0, 1, 1), 7);
        x.month(1);
        Due.is(x, "24 one has lapsed", x.swear(0, 1, 1), 5);
        x.rule(6, 0);
        x.carry(1, 1);
        Due.is(x, "24 all have lapsed", x.swear(0, 1, 1), 1);
    }

    private static void paidJustEnough() {
        for (int side = 0; side < 2; side++) {
            DitchSaint x = Due.with(side == 0 ? "chest east 99;chest west 3;" : "chest west 99;chest east 3;");
            x.swear(side, 99, 1);
            Due.is(x, "25 just enough", x.pay(0), 0);
            Due.is(x, "25 it is empty", x.chest(side), 0);
            Due.is(x, "25 to the other one", x.chest(1 - side), 102);
            Due.is(x, "25 the debt is gone", x.many(1), 0);
        }
    }

    private static void paidOneTooFew() {
        Refused.with(9, "25 one too few", () -> Due.with("chest east 98;chest west 999;debt east sum 99 left 1;"), x -> x.pay(0));
        Refused.with(9, "25 empty", () -> Due.with("chest west 999;debt east sum 1 left 1;"), x -> x.pay(0));
        Refused.with(9, "25 one too few of west", () -> Due.with("chest west 98;chest east 999;debt west sum 99 left 1;"), x -> x.pay(0));
    }

    private static void paidToAFullChest() {
        for (int over = -1; over <= 1; over++) {
            DitchSaint x = Due.with("chest east " + (950 + over) + ";chest west 99;right east here worth 50" + ALL);
            x.month(99);
            x.month(80);
            Due.is(x, "22 east", x.chest(0), 9900 + over);
            x.swear(1, 99, 1);
            Due.is(x, "25 all of it goes", x.pay(0), 0);
            Due.is(x, "25 9,999 at most", x.chest(0), Math.min(9999, 9999 + over));
        }
    }

    private static void paidLeavesNoGap() {
        for (int paid = 0; paid < 5; paid++) {
            DitchSaint x = Due.with("chest east 99;");
            for (int i = 0; i < 5; i++) {
                x.swear(0, 10 + i, 20 + i);
            }
            Due.is(x, "25 the right one", x.pay(paid), 99 - 10 - paid);
            Due.is(x, "25 four are left", x.many(1), 4);
            for (int i = 0; i < 4; i++) {
                int was = i < paid ? i : i + 1;
                Due.is(x, "25 sum " + i + " behind " + paid, x.debt(i, 1), 10 + was);
                Due.is(x, "25 left " + i + " behind " + paid, x.debt(i, 2), 20 + was);
            }
            Due.not(x, "16 no fifth", x.debt(4, 0), 2);
        }
    }

    private static void paidDidNotLapse() {
        DitchSaint x = Due.with("chest east 9;debt east sum 9 left 1;");
        x.pay(0);
        Due.is(x, "25 it did not lapse", x.many(10), 0);
        x.month(1);
        Due.is(x, "25 nor later", x.many(10), 0);
    }

    private static void lapsesWithNoneLeft() {
        for (int left = 1; left <= 24; left++) {
            DitchSaint x = Due.with("debt west sum 3 left " + left + ";");
            for (int i = 1; i < left; i++) {
                x.month(1);
                Due.is(x, "22 left", x.debt(0, 2), left - i);
                Due.is(x, "22 not yet", x.many(10), 0);
            }
            x.month(1);
            Due.is(x, "22 lapsed behind " + left, x.many(1), 0);
            Due.is(x, "22 counted", x.many(10), 1);
        }
    }

    private static void severalLapseAtOnce() {
        DitchSaint x = Due.with("debt east sum 1 left 2;".repeat(5));
        x.month(1);
        Due.is(x, "22 all five", x.many(1), 5);
        x.month(1);
        Due.is(x, "22 none", x.many(1), 0);
        Due.is(x, "22 all lapsed", x.many(10), 5);
        DitchSaint y = Due.with("debt east sum 1 left 2;".repeat(5));
        y.month(99);
        Due.is(y, "22 in one call", y.many(10), 5);
    }

    private static void lapsedLeaveNoGap() {
        DitchSaint x = Due.with("debt east sum 1 left 1;debt west sum 2 left 3;debt east sum 3 left 1;debt west sum 4 left 2;debt east sum 5 left 1;");
        x.month(1);
        Due.is(x, "22 two are left", x.many(1), 2);
        int[][] due = {{1, 2, 2}, {1, 4, 1}};
        for (int i = 0; i < 2; i++) {
            for (int what = 0; what < 3; what++) {
                Due.is(x, "22 those behind have a number less", x.debt(i, what), due[i][what]);
            }
        }
        x.month(1);
        Due.is(x, "22 the first is left", x.debt(0, 1), 2);
        Due.is(x, "22 four lapsed", x.many(10), 4);
    }
}
