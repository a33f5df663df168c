/** Edges of PLANS, promises 33 to 41: the first and the last PLAN, the year's wrap-around, what is just as good. */
public final class PlanEdgeTest {
    private static final String ALL = " in 0 1 2 3 4 5 6 7 8 9 10 11;";
    private static final int[] FAR = {Integer.MIN_VALUE, Integer.MAX_VALUE};

    public static void main(String[] args) {
        plansAre0To4095();
        whatIs0Or1();
        gainOfNothing();
        gainOfAllThereCanBe();
        gainOfEachMonth();
        gainLateWrapsAround();
        changesWrapAround();
        netBelow0();
        bestOf0To12Changes();
        bestWithJustAsMany();
        bestOfSeveral();
        fairIfJustAsMuch();
        fairForBothSides();
        treatyByJustTheWar();
        treatyOfOneMonthMore();
        noneOfThem();
        bestOfThemOfSeveral();
        evenOfSeveral();
        rentOfMonths0To11();
        rentBelow0();
        rentOfHere();
        rentOfLate();
        rentOfChanges();
        rentOf12Changes();
        nothingChanges();
        Due.end();
    }

    private static void plansAre0To4095() {
        for (int plan : new int[] {FAR[0], -1, 4096, FAR[1]}) {
            Refused.with(5, "33 plan " + plan, x -> x.gain(0, plan));
            Refused.with(2, "33 side ahead of plan " + plan, x -> x.gain(2, plan));
            Refused.with(5, "34 plan " + plan, x -> x.changes(plan));
            Refused.with(5, "35 plan " + plan, x -> x.net(plan));
            Refused.with(5, "37 fair plan " + plan, x -> x.isSo(plan, 0));
            Refused.with(5, "37 treaty " + plan, x -> x.isSo(plan, 1));
        }
        DitchSaint x = Due.with("toll 0;right east here worth 3 in 0 11;right west here worth 5 in 0 11;");
        Due.is(x, "33 the first plan, east", x.gain(0, 0), 0);
        Due.is(x, "33 the first plan, west", x.gain(1, 0), 10);
        Due.is(x, "33 the last plan, east", x.gain(0, 4095), 6);
        Due.is(x, "33 the last plan, west", x.gain(1, 4095), 0);
        Due.is(x, "35 the first plan", x.net(0), 10);
        Due.is(x, "35 the last plan", x.net(4095), 6);
    }

    private static void whatIs0Or1() {
        for (int what : new int[] {FAR[0], -1, 2, FAR[1]}) {
            Refused.with(5, "37 what " + what, x -> x.isSo(0, what));
            Refused.with(5, "38 what " + what, x -> x.howMany(what));
            Refused.with(5, "39 what " + what, x -> x.bestOf(what));
        }
    }

    private static void gainOfNothing() {
        DitchSaint x = new DitchSaint();
        Due.is(x, "33 no rights", x.gain(0, 4095), 0);
        Due.is(x, "33 no rights", x.gain(1, 0), 0);
        DitchSaint y = Due.with("right east here worth 50 in;right west away worth 50 in;");
        Due.is(y, "33 no months, east", y.gain(0, 4095), 0);
        Due.is(y, "33 no months, west", y.gain(1, 4095), 0);
    }

    private static void gainOfAllThereCanBe() {
        StringBuilder text = new StringBuilder("toll 99;");
        for (int i = 0; i < 8; i++) {
            text.append("right west here worth 50").append(ALL);
        }
        DitchSaint x = Due.with(text.toString());
        Due.is(x, "33 the most", x.gain(1, 0), 4800);
        Due.is(x, "35 the most", x.net(0), 4800);
        Due.is(x, "36 the most", x.best(12), 0);
        Due.is(x, "33 half of it", x.gain(1, 0x555), 2400);
        Due.is(x, "35 half of it, and as many tolls as can be", x.net(0x555), 2400 - 12 * 99);
    }

    private static void gainOfEachMonth() {
        for (int month = 0; month < 12; month++) {
            DitchSaint x = Due.with("right east here worth 1 in " + month + ";right west here worth 2 in " + month
                    + ";right east away worth 4 in " + month + ";right west away worth 8 in " + month + ";");
            int plan = 1 << month;
            Due.is(x, "33 east has " + month, x.gain(0, plan), 1);
            Due.is(x, "33 west has it not", x.gain(1, plan), 8);
            Due.is(x, "33 east has all but " + month, x.gain(0, 4095 ^ plan), 4);
            Due.is(x, "33 west has that", x.gain(1, 4095 ^ plan), 2);
        }
    }

    private static void gainLateWrapsAround() {
        for (int lag = 1; lag <= 6; lag++) {
            for (int month = 0; month < 12; month++) {
                DitchSaint x = Due.with("right east late " + lag + " worth 3 in " + month + ";right west late " + lag + " worth 5 in " + month + ";");
                int ahead = month >= lag ? month - lag : month - lag + 12;
                Due.is(x, "33 late " + lag + " in " + month, x.gain(0, 1 << ahead), 3);
                Due.is(x, "33 late " + lag + " in " + month + ", all but that", x.gain(0, 4095 ^ 1 << ahead), 0);
                Due.is(x, "33 west late " + lag + " in " + month, x.gain(1, 4095 ^ 1 << ahead), 5);
                Due.is(x, "33 west late " + lag + " in " + month + ", but that", x.gain(1, 1 << ahead), 0);
            }
        }
    }

    private static void changesWrapAround() {
        DitchSaint x = new DitchSaint();
        int[][] due = {{0, 0}, {4095, 0}, {1, 2}, {2048, 2}, {2049, 2}, {2047, 2}, {4094, 2}, {5, 4}, {0x555, 12}, {0xaaa, 12},
            {0x554, 10}, {2050, 4}, {63, 2}, {4032, 2}, {96, 2}};
        for (int[] one : due) {
            Due.is(x, "34 plan " + one[0], x.changes(one[0]), one[1]);
        }
    }

    private static void netBelow0() {
        DitchSaint x = Due.with("toll 1;right east here worth 1 in 0;");
        Due.is(x, "35 -1 is no NONE", x.net(1), -1);
        Due.is(x, "35 0", x.net(4095 ^ 2) + 1, 0);
        DitchSaint y = Due.with("toll 99;");
        Due.is(y, "35 the least", y.net(0x555), -1188);
        DitchSaint z = Due.with("toll 0;");
        Due.is(z, "35 no toll", z.net(0x555), 0);
    }

    private static void bestOf0To12Changes() {
        for (int c : new int[] {FAR[0], -1, 13, FAR[1]}) {
            Refused.with(5, "36 c " + c, x -> x.best(c));
        }
        DitchSaint x = Due.with("toll 0;right east here worth 1 in 0 2 4 6 8 10;right west here worth 1 in 1 3 5 7 9 11;");
        Due.is(x, "36 12 changes", x.best(12), 0x555);
        Due.is(x, "36 no more than 11", x.best(11), 0x155);
        Due.is(x, "36 no more than 10", x.best(10), 0x155);
        Due.is(x, "36 no more than 2", x.best(2), 1);
        Due.is(x, "36 no more than 1", x.best(1), 0);
        Due.is(x, "36 none", x.best(0), 0);
    }

    private static void bestWithJustAsMany() {
        DitchSaint x = Due.with("toll 0;right east here worth 9 in 3;right east here worth 8 in 7;right west here worth 1 in 0 1 2 4 5 6 8 9 10 11;");
        Due.is(x, "36 just 4", x.best(4), 8 + 128);
        Due.is(x, "36 not 4", x.best(3), 8 + 16 + 32 + 64 + 128);
        Due.is(x, "36 not 2", x.best(1), 4095);
    }

    private static void bestOfSeveral() {
        DitchSaint x = new DitchSaint();
        Due.is(x, "36 all as good", x.best(12), 0);
        DitchSaint y = Due.with("toll 2;right west here worth 50 in 6;right east here worth 4 in 0;");
        Due.is(y, "36 as good as the tolls", y.best(12), 0);
        y.price(1, 5);
        Due.is(y, "36 better than the tolls", y.best(12), 1);
        y.price(1, 4);
        y.rule(6, 1);
        Due.is(y, "36 better than lesser tolls", y.best(12), 1);
        DitchSaint z = Due.with("toll 0;right east here worth 1 in 11;right west here worth 1 in 5;");
        Due.is(z, "36 the least of those with 11, without 5", z.best(12), 2048);
        Due.is(z, "36 0 and 4,095 are as good", z.best(0), 0);
        z.price(0, 2);
        Due.is(z, "36 the last", z.best(0), 4095);
    }

    private static void fairIfJustAsMuch() {
        DitchSaint x = Due.with("right east here worth 1 in 0;right east here worth 1 in 1;");
        Due.is(x, "37 just as much", x.isSo(1, 0), 1);
        Due.is(x, "37 just as much", x.isSo(2, 0), 1);
        Due.is(x, "37 more", x.isSo(3, 0), 1);
        Due.is(x, "37 less", x.isSo(0, 0), 0);
        Due.is(x, "38 three of four", x.howMany(0), 3072);
        x.price(1, 2);
        Due.is(x, "37 less by 1", x.isSo(1, 0), 0);
        Due.is(x, "37 more by 1", x.isSo(2, 0), 1);
        Due.is(x, "38 half", x.howMany(0), 2048);
    }

    private static void fairForBothSides() {
        DitchSaint x = Due.with("right east here worth 3 in 4;right west here worth 5 in 5;");
        Due.is(x, "37 both have theirs", x.isSo(16, 0), 1);
        Due.is(x, "37 east has both", x.isSo(48, 0), 0);
        Due.is(x, "37 west has both", x.isSo(0, 0), 0);
        Due.is(x, "37 each has the other's", x.isSo(32, 0), 0);
        Due.is(x, "38 a quarter", x.howMany(0), 1024);
        Due.is(x, "39 the best of them", x.bestOf(0), 16);
    }

    private static void treatyByJustTheWar() {
        for (int war : new int[] {0, 1, 49, 50, 98, 99}) {
            for (int side = 0; side < 2; side++) {
                DitchSaint x = Due.with("war " + war + ";");
                int less = war / 2;
                for (int worth : new int[] {less, war - less}) {
                    if (worth > 0) {
                        x.claim(side, 0, 0, worth, 1 << 6);
                    }
                }
                Due.is(x, "38 more by just the war " + war, x.howMany(1), 4096);
                x.claim(side, 0, 0, 1, 1 << 6);
                Due.is(x, "38 more by above the war " + war, x.howMany(1), 2048);
                Due.is(x, "37 with that month", x.isSo(side == 0 ? 64 : 0, 1), 1);
                Due.is(x, "37 without it", x.isSo(side == 0 ? 0 : 64, 1), 0);
            }
        }
    }

    private static void treatyOfOneMonthMore() {
        DitchSaint x = Due.with("war 5;right east here worth 3 in 0 1 2 3;right west here worth 3 in 0 1 2 3;");
        Due.is(x, "38 one month more, not two", x.howMany(1), 4096);
        DitchSaint y = Due.with("war 5;right east here worth 3 in 0;right east late 1 worth 3 in 1;");
        Due.is(y, "37 a month that counts twice", y.isSo(0, 1), 0);
        Due.is(y, "37 he has it", y.isSo(1, 1), 1);
        DitchSaint z = Due.with("war 0;right east away worth 50" + ALL + "right west away worth 50" + ALL);
        Due.is(z, "38 a month more is less", z.howMany(1), 4096);
        DitchSaint v = Due.with("war 2;right east here worth 9 in 11;right east away worth 7 in 11;");
        Due.is(v, "37 more by just the war, away counted", v.isSo(0, 1), 1);
        v.rule(7, 1);
        Due.is(v, "37 more by above the war, away counted", v.isSo(0, 1), 0);
    }

    private static void noneOfThem() {
        String text = "war 0;right east here worth 1 in 3;right west here worth 1 in 3;";
        DitchSaint x = Due.with(text);
        Due.is(x, "38 none is fair", x.howMany(0), 0);
        Due.is(x, "38 no treaty", x.howMany(1), 0);
        Refused.with(8, "39 none is fair", () -> Due.with(text), y -> y.bestOf(0));
        Refused.with(8, "39 no treaty", () -> Due.with(text), y -> y.bestOf(1));
        x.rule(7, 1);
        Due.is(x, "39 treaties", x.bestOf(1), 0);
        Due.not(x, "39 none is fair", x.bestOf(0), 8);
    }

    private static void bestOfThemOfSeveral() {
        DitchSaint x = new DitchSaint();
        Due.is(x, "39 all are as good", x.bestOf(0), 0);
        Due.is(x, "39 all are as good", x.bestOf(1), 0);
        DitchSaint y = Due.with("toll 0;war 0;right east here worth 1 in 11;");
        Due.is(y, "39 the least of half", y.bestOf(0), 2048);
        Due.is(y, "39 the least of half", y.bestOf(1), 2048);
        y.rule(6, 1);
        Due.is(y, "39 the last, without a toll", y.bestOf(0), 4095);
        Due.is(y, "39 the last, without a toll", y.bestOf(1), 4095);
        DitchSaint z = Due.with("toll 99;war 0;right east here worth 1 in 11;right west here worth 1 in 10;");
        Due.is(z, "39 below 0", z.net(z.bestOf(1)), 2 - 198);
        Due.is(z, "39 the least of them", z.bestOf(1), 2048);
    }

    private static void evenOfSeveral() {
        DitchSaint x = new DitchSaint();
        Due.is(x, "40 all are as even", x.even(), 0);
        DitchSaint y = Due.with("toll 99;right east here worth 5 in 11;right west here worth 7 in 10;");
        Due.is(y, "40 the least, whatever the toll", y.even(), 2048);
        DitchSaint z = Due.with("right east here worth 1" + ALL + "right west away worth 1" + ALL);
        Due.is(z, "40 the last", z.even(), 4095);
        DitchSaint v = Due.with("right east here worth 2 in 0 1;right west here worth 3 in 0 1;");
        Due.is(v, "40 one each, the least", v.even(), 1);
        DitchSaint w = Due.with("right east here worth 9" + ALL);
        Due.is(w, "40 one has nothing anyhow", w.even(), 0);
    }

    private static void rentOfMonths0To11() {
        for (int month : new int[] {FAR[0], -1, 12, FAR[1]}) {
            Refused.with(5, "41 month " + month, x -> x.rent(month));
        }
        for (int month = 0; month < 12; month++) {
            DitchSaint x = Due.with("toll 0;right east here worth 5 in " + month + ";");
            for (int of = 0; of < 12; of++) {
                Due.is(x, "41 of month " + of, x.rent(of), of == month ? 5 : 0);
            }
        }
    }

    private static void rentBelow0() {
        DitchSaint x = Due.with("toll 0;right east away worth 1 in 4;right west away worth 2 in 4;");
        Due.is(x, "41 -1 is no NONE", x.rent(4), -1);
        Due.is(x, "41 of another month", x.rent(5), 0);
        x.price(0, 50);
        x.price(1, 50);
        Due.is(x, "41 away bears for both", x.rent(4), -50);
    }

    private static void rentOfHere() {
        DitchSaint x = Due.with("toll 0;right east here worth 3 in 4;right west here worth 7 in 4;right west away worth 6 in 4;");
        Due.is(x, "41 here for none, away still", x.rent(4), 9 - 6);
    }

    private static void rentOfLate() {
        for (int lag = 1; lag <= 6; lag++) {
            DitchSaint x = Due.with("toll 0;right east late " + lag + " worth 7 in 1;right west late " + lag + " worth 4 in 1;");
            int ahead = (13 - lag) % 12;
            for (int month = 0; month < 12; month++) {
                Due.is(x, "41 late " + lag + " of month " + month, x.rent(month), month == ahead ? 7 : 0);
            }
        }
    }

    private static void rentOfChanges() {
        for (int month = 0; month < 12; month++) {
            DitchSaint x = Due.with("toll 2;");
            x.claim(1, 0, 0, 3, 4095 ^ 1 << month);
            x.claim(0, 0, 0, 5, 1 << month);
            Due.is(x, "35 two tolls are worth it", x.net(1 << month), 34);
            Due.is(x, "41 as if he lay where he did ahead of " + month, x.rent(month), 1);
            // the MONTH behind it is east's: he is carried there from west all the same
            x.claim(0, 0, 0, 50, 1 << (month + 1) % 12);
            Due.is(x, "35 two tolls of two months", x.net(1 << month | 1 << (month + 1) % 12), 5 + 50 + 30 - 4);
            Due.is(x, "41 two tolls with it, two without it", x.rent(month), 5);
        }
    }

    /** The greatest NET of all PLANS: of those with as many CHANGES as can be, too. */
    private static void rentOf12Changes() {
        DitchSaint x = Due.with("toll 0;right east here worth 1 in 0 2 4 6 8 10;right west here worth 1 in 1 3 5 7 9 11;");
        for (int month = 0; month < 12; month++) {
            Due.is(x, "41 month " + month + " of twelve changes", x.rent(month), 1);
        }
    }

    private static void nothingChanges() {
        DitchSaint x = Refused.busy();
        x.gain(0, 7);
        x.net(7);
        x.best(12);
        x.isSo(7, 0);
        x.howMany(1);
        x.bestOf(1);
        x.even();
        x.rent(3);
        x.game(4);
        x.moveOf(4);
        Due.yes("33 to 41, 47, 48 change nothing", Look.through(x).equals(Look.through(Refused.busy())));
    }
}
