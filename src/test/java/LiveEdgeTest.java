/** Edges of YEARS that are LIVED, promises 51 to 53: seeds, draws, what is MISSED, 300 STEPS. */
public final class LiveEdgeTest {
    private static final int[] FAR = {Integer.MIN_VALUE, Integer.MAX_VALUE};
    private static final String ALL = " in 0 1 2 3 4 5 6 7 8 9 10 11;";

    public static void main(String[] args) {
        seedsAre0To9999();
        noYears();
        yearsOfNothing();
        whatOfLived();
        livedAheadOfAny();
        livedOfTheLatest();
        livedCountsFromThere();
        drawBelowOdds();
        drawsOfOdds0And16();
        drawsGoOn();
        missedMonths();
        missedMonthByAny();
        missedUnlikeCarry();
        missedCarryWithoutToll();
        missedCarryByAny();
        missedSixthDebt();
        missedPayOfNoDebt();
        missedPayWithoutEnough();
        missedStepsAreDone();
        loopsAsOften();
        whenAndLoopCountEachTime();
        stopEndsAll();
        testsAtTheirEdges();
        steps299To301();
        endsBehind300();
        loopsLeftOffAreForgotten();
        meanOf1To20();
        meanOfTheLastSeed();
        meanWithoutYears();
        meanLeavesAll();
        meanOfFullChests();
        Due.end();
    }

    private static DitchSaint inMonth(String text, String years, int month) {
        DitchSaint x = Due.with(text, years);
        for (int left = month; left > 0; left -= 99) {
            x.month(Math.min(left, 99));
        }
        return x;
    }

    private static void lived(DitchSaint x, String what, int... due) {
        for (int i = 0; i < due.length; i++) {
            Due.is(x, "52 lived " + i + ", " + what, x.lived(i), due[i]);
        }
    }

    private static void seedsAre0To9999() {
        for (int seed : new int[] {FAR[0], -1, 10000, FAR[1]}) {
            Refused.with(5, "51 seed " + seed, x -> x.live(seed));
            Refused.with(5, "51 seed " + seed + " ahead of no years", DitchSaint::new, x -> x.live(seed));
            Refused.with(5, "53 seed " + seed, x -> x.mean(seed, 1));
            Refused.with(5, "53 seed " + seed + " ahead of no years", DitchSaint::new, x -> x.mean(seed, 1));
        }
        for (int seed : new int[] {0, 1, 9998, 9999}) {
            DitchSaint x = Due.with("", "month 1;");
            Due.is(x, "51 seed " + seed, x.live(seed), 1);
            Due.yes(x, "53 seed " + seed, x.mean(seed, 1));
        }
    }

    private static void noYears() {
        Refused.with(8, "51 none at first", DitchSaint::new, x -> x.live(0));
        Refused.with(8, "51 none behind a parish", () -> Due.with("war 1;"), x -> x.live(0));
        DitchSaint x = new DitchSaint();
        Due.years(x, "stop");
        Due.not(x, "51 none behind a fault", x.live(0), 8);
        Due.years(x, "stop;");
        Due.is(x, "51 now there are", x.live(0), 1);
        Due.parish(x, "odds 17;");
        Due.is(x, "51 they outlive a fault of a parish", x.live(0), 1);
        Due.parish(x, "odds 16;");
        Due.not(x, "51 not a new parish", x.live(0), 8);
    }

    private static void yearsOfNothing() {
        DitchSaint x = Due.with("chest east 5;", " \n ");
        Due.is(x, "51 no steps", x.live(0), 0);
        lived(x, "no steps", 0, 0, 0, 0, 0);
        Due.fraction(x, "53 no steps", x.mean(0, 20), 5, 1);
    }

    private static void whatOfLived() {
        for (int what : new int[] {FAR[0], -1, 5, FAR[1]}) {
            Refused.with(5, "52 what " + what, x -> x.lived(what));
            Refused.with(5, "52 what " + what + " ahead of none", DitchSaint::new, x -> x.lived(what));
        }
        DitchSaint x = Due.with("toll 0;debt east sum 1 left 1;", "month 2;carry 1 2;carry 1 1;carry 2 2;carry 3 3;swear east 1 1;swear west 1 2;"
                + "swear west 1 9;swear west 1 9;month 1;carry 4 4;pay 0;pay 1;pay 2;loop 99;loop 99;month 1;end;end;");
        Due.is(x, "51 as many as may be", x.live(0), 300);
        lived(x, "each another number", 4, 3 + 282, 4, 5, 1);
    }

    private static void livedAheadOfAny() {
        for (int what = 0; what < 5; what++) {
            int of = what;
            Refused.with(8, "52 what " + what + " of none", DitchSaint::new, x -> x.lived(of));
        }
        DitchSaint x = new DitchSaint();
        x.live(0);
        Due.not(x, "52 8 is no live", x.lived(0), 8);
        Due.years(x, "month 1;");
        x.live(-1);
        Due.not(x, "52 5 is no live", x.lived(0), 8);
        x.mean(0, 1);
        Due.not(x, "52 mean is no live", x.lived(0), 8);
        x.live(0);
        Due.is(x, "52 now", x.lived(1), 1);
    }

    private static void livedOfTheLatest() {
        DitchSaint x = Due.with("toll 0;", "month 3;carry 1 1;");
        x.live(0);
        lived(x, "of live", 0, 3, 1, 0, 0);
        Due.years(x, "month 24;month 24;pay 0;");
        lived(x, "behind new years", 0, 3, 1, 0, 0);
        x.mean(0, 20);
        lived(x, "behind mean", 0, 3, 1, 0, 0);
        x.live(10000);
        lived(x, "behind 5", 0, 3, 1, 0, 0);
        Due.parish(x, "");
        x.live(0);
        lived(x, "behind 8", 0, 3, 1, 0, 0);
        x.month(9);
        x.mark();
        x.back();
        lived(x, "behind a mark", 0, 3, 1, 0, 0);
        Due.years(x, "month 24;month 24;pay 0;");
        x.live(0);
        lived(x, "of the next live", 1, 48, 0, 0, 0);
    }

    private static void livedCountsFromThere() {
        DitchSaint x = Due.with("toll 0;debt east sum 1 left 1;", "month 1;carry 1 1;swear east 1 1;month 1;");
        x.month(5);
        x.carry(1, 1);
        x.live(0);
        lived(x, "not what was ahead", 0, 2, 1, 1, 0);
        Due.is(x, "13 all months", x.many(9), 7);
        Due.is(x, "13 all lapsed", x.many(10), 2);
        Due.is(x, "13 all carryings", x.many(11), 2);
        x.live(0);
        lived(x, "once more", 0, 2, 1, 1, 0);
    }

    /** By seed 0 the draws are 3, 2 and 14: 4 of EAST, 3 of WEST. By seed 9,999 they are 2, 1 and 8. */
    private static void drawBelowOdds() {
        int[][] seeds = {{0, 14}, {9999, 8}};
        for (int[] seed : seeds) {
            DitchSaint x = Due.with("toll 0;odds " + seed[1] + ";", "any;");
            x.live(seed[0]);
            lived(x, "not below the odds: a month", 0, 1, 0, 0, 0);
            DitchSaint y = Due.with("toll 0;odds " + (seed[1] + 1) + ";", "any;");
            y.live(seed[0]);
            lived(y, "below the odds: carried by unlike numbers", 1, 0, 0, 0, 0);
        }
    }

    private static void drawsOfOdds0And16() {
        DitchSaint x = Due.with("toll 0;odds 0;", "loop 99;any;end;");
        DitchSaint y = Due.with("toll 0;odds 16;", "loop 99;any;end;");
        for (int seed = 0; seed < 20; seed++) {
            x.live(seed * 500);
            lived(x, "odds 0: months alone", 0, 99, 0, 0, 0);
            y.live(seed * 500);
            Due.is(y, "52 odds 16: no month", y.lived(1), 0);
            Due.is(y, "52 odds 16: carried or missed", y.lived(0) + y.lived(2), 99);
        }
    }

    private static void drawsGoOn() {
        DitchSaint x = Due.with("toll 0;odds 7;", "loop 2;any;end;when lies west;any;end;any;");
        for (int seed = 0; seed < 40; seed++) {
            int[] due = new int[3];
            int s = seed;
            int lies = x.many(8);
            for (int i = 0; i < 4; i++) {
                if (i == 2 && lies == 0) {
                    continue;
                }
                int[] drawn = new int[3];
                for (int k = 0; k < 3; k++) {
                    s = (s * 2971 + 10939) % 65536;
                    drawn[k] = s / 8 % (k == 2 ? 16 : 4);
                }
                int came = drawn[2] >= 7 ? 1 : drawn[0] == drawn[1] ? 2 : 0;
                lies = came == 2 ? 1 - lies : lies;
                due[came]++;
            }
            x.live(seed);
            lived(x, "all three draws first, by seed " + seed, due);
        }
    }

    private static void missedMonths() {
        DitchSaint x = inMonth("debt east sum 1 left 1;", "month 24;", 9976);
        x.swear(0, 1, 1);
        x.live(0);
        lived(x, "9,976 and 24", 1, 0, 0, 0, 0);
        Due.is(x, "51 as a whole", x.many(9), 9976);
        Due.is(x, "51 the debt stays", x.many(1), 1);
        DitchSaint y = inMonth("", "month 24;", 9975);
        y.live(0);
        lived(y, "9,975 and 24", 0, 24, 0, 0, 0);
        Due.is(y, "51 just 9,999", y.many(9), 9999);
        y.live(0);
        lived(y, "9,999 and 24", 1, 0, 0, 0, 0);
    }

    private static void missedMonthByAny() {
        DitchSaint x = inMonth("odds 0;right east here worth 1" + ALL, "any;", 9998);
        x.live(0);
        lived(x, "to 9,999", 0, 1, 0, 0, 0);
        x.live(0);
        lived(x, "beyond 9,999", 1, 0, 0, 0, 0);
        Due.is(x, "51 nothing came", x.chest(0), 9999);
        Due.is(x, "51 9,999", x.many(9), 9999);
    }

    private static void missedUnlikeCarry() {
        DitchSaint x = Due.with("toll 0;debt east sum 1 left 1;", "carry 19 20;carry 2 1;");
        x.live(0);
        lived(x, "unlike", 2, 0, 0, 0, 0);
        Due.is(x, "51 the debt stays", x.many(1), 1);
        Due.is(x, "51 he lies where he did", x.many(8), 0);
    }

    private static void missedCarryWithoutToll() {
        DitchSaint x = Due.with("toll 5;chest west 9;chest east 4;", "carry 1 1;carry 20 20;");
        x.live(0);
        lived(x, "one has the toll, one has not", 1, 0, 1, 0, 0);
        Due.is(x, "51 the toll is gone once", x.chest(1), 4);
        Due.is(x, "51 nothing else is", x.chest(0), 4);
    }

    private static void missedCarryByAny() {
        DitchSaint x = Due.with("toll 1;odds 16;debt east sum 1 left 9;", "loop 99;any;end;");
        x.live(0);
        lived(x, "never the toll", 99, 0, 0, 0, 0);
        Due.is(x, "51 the debt stays", x.many(1), 1);
    }

    private static void missedSixthDebt() {
        DitchSaint x = Due.with("debt west sum 7 left 7;", "loop 6;swear east 1 1;end;");
        x.live(0);
        lived(x, "two too many", 2, 0, 0, 0, 0);
        Due.is(x, "51 five", x.many(1), 5);
        Due.is(x, "51 the first is as it was", x.debt(0, 1), 7);
    }

    private static void missedPayOfNoDebt() {
        DitchSaint x = Due.with("chest east 9;debt east sum 1 left 1;debt east sum 2 left 2;", "pay 2;pay 4;pay 1;pay 1;pay 0;pay 0;");
        x.live(0);
        lived(x, "debts that there are not", 4, 0, 0, 0, 0);
        Due.is(x, "51 both are paid", x.chest(0), 6);
        Due.is(x, "51 to the other", x.chest(1), 3);
    }

    private static void missedPayWithoutEnough() {
        DitchSaint x = Due.with("chest east 4;debt east sum 5 left 1;debt east sum 4 left 2;", "pay 0;pay 1;pay 0;");
        x.live(0);
        lived(x, "one too few", 2, 0, 0, 0, 0);
        Due.is(x, "51 one is left", x.debt(0, 1), 5);
        Due.is(x, "51 just enough", x.chest(0), 0);
    }

    private static void missedStepsAreDone() {
        DitchSaint x = Due.with("", "pay 0;pay 0;month 1;");
        Due.is(x, "51 missed are done", x.live(0), 3);
        DitchSaint y = Due.with("", "loop 99;pay 0;pay 0;pay 0;end;pay 0;pay 0;pay 0;");
        Due.is(y, "51 and count to 300", y.live(0), 300);
        lived(y, "one is left", 299, 0, 0, 0, 1);
    }

    private static void loopsAsOften() {
        for (int often : new int[] {1, 2, 98, 99}) {
            DitchSaint x = Due.with("", "loop " + often + ";month 2;end;");
            Due.is(x, "51 loop " + often, x.live(0), 1 + often);
            Due.is(x, "52 loop " + often, x.lived(1), 2 * often);
        }
        DitchSaint x = Due.with("", "loop 3;loop 4;loop 5;month 1;end;end;end;");
        Due.is(x, "51 within others", x.live(0), 1 + 3 + 12 + 60);
        Due.is(x, "52 within others", x.lived(1), 60);
        Due.is(x, "51 again from the first", x.live(0), 76);
    }

    private static void whenAndLoopCountEachTime() {
        DitchSaint x = Due.with("", "loop 5;when lies west;month 1;end;end;");
        Due.is(x, "51 when, not held", x.live(0), 1 + 5);
        DitchSaint y = Due.with("", "loop 5;when lies east;month 1;end;end;");
        Due.is(y, "51 when, held", y.live(0), 1 + 5 + 5);
        DitchSaint z = Due.with("", "loop 5;loop 3;end;end;");
        Due.is(z, "51 loop of nothing", z.live(0), 1 + 5);
    }

    private static void stopEndsAll() {
        DitchSaint x = Due.with("", "stop;");
        Due.is(x, "51 stop is a step", x.live(0), 1);
        lived(x, "none is left", 0, 0, 0, 0, 0);
        DitchSaint y = Due.with("", "loop 9;loop 9;when lies east;month 1;stop;month 1;end;end;end;month 1;");
        Due.is(y, "51 out of three others", y.live(0), 5);
        lived(y, "none is left", 0, 1, 0, 0, 0);
        DitchSaint z = Due.with("", "when lies west;stop;end;month 1;");
        Due.is(z, "51 a stop that is not come to", z.live(0), 2);
        lived(z, "behind it", 0, 1, 0, 0, 0);
    }

    private static void testsAtTheirEdges() {
        String[] tests = {"lies east", "lies west", "owes east", "owes west", "chest east<6", "chest east<5", "chest east=5", "chest east=6",
            "chest east>4", "chest east>5", "chest west=0", "chest west<1", "chest west<0", "chest west>0", "chest east<9999", "chest west>9999"};
        boolean[] due = {true, false, false, true, true, false, true, false, true, false, true, true, false, false, true, false};
        for (int i = 0; i < tests.length; i++) {
            DitchSaint x = Due.with("chest east 5;debt west sum 1 left 1;", "when " + tests[i] + ";month 1;end;");
            Due.is(x, "51 when " + tests[i], x.live(0), due[i] ? 2 : 1);
        }
        DitchSaint x = Due.with("debt west sum 1 left 1;", "when owes west;month 1;end;when owes west;month 1;end;");
        Due.is(x, "51 owes no more", x.live(0), 3);
    }

    private static void steps299To301() {
        for (int more = 0; more <= 2; more++) {
            // a loop, and three STEPS 99 times: 298
            DitchSaint x = Due.with("", "loop 99;month 1;pay 0;month 1;end;month 1;" + "month 1;".repeat(more));
            Due.is(x, "51 " + (299 + more), x.live(0), Math.min(300, 299 + more));
            lived(x, 299 + more + " steps", 99, 199 + Math.min(more, 1), 0, 0, more == 2 ? 1 : 0);
        }
        for (String left : new String[] {"stop;", "any;", "loop 1;end;", "when lies west;end;", "pay 0;"}) {
            DitchSaint x = Due.with("", "loop 99;month 1;pay 0;month 1;end;month 1;month 1;" + left);
            Due.is(x, "51 300, and " + left, x.live(0), 300);
            Due.is(x, "52 left: " + left, x.lived(4), 1);
        }
        DitchSaint x = Due.with("", "loop 99;month 1;pay 0;month 1;end;month 1;stop;month 1;");
        Due.is(x, "51 stop is the 300th", x.live(0), 300);
        Due.is(x, "52 none is left behind stop", x.lived(4), 0);
    }

    private static void endsBehind300() {
        DitchSaint x = Due.with("", "month 1;month 1;when lies east;loop 99;month 1;month 1;month 1;end;end;");
        Due.is(x, "51 cut in the loop", x.live(0), 300);
        Due.is(x, "52 its last is left", x.lived(4), 1);
        DitchSaint y = Due.with("", "month 1;loop 99;month 1;month 1;month 1;end;when lies east;end;");
        Due.is(y, "51 the 300th is a when of nothing", y.live(0), 300);
        Due.is(y, "52 its end is no step", y.lived(4), 0);
        DitchSaint z = Due.with("", "when lies east;loop 1;loop 99;month 1;month 1;month 1;end;end;end;");
        Due.is(z, "51 300, then ends alone", z.live(0), 300);
        Due.is(z, "52 ends are no steps", z.lived(4), 0);
        DitchSaint v = Due.with("", "loop 2;loop 99;month 1;month 1;month 1;end;pay 0;end;");
        Due.is(v, "51 the loop goes on", v.live(0), 300);
        Due.is(v, "52 its second time is left", v.lived(4), 1);
    }

    /** A loop that was left by stop, or by the 300th STEP, says nothing of what stands there later. */
    private static void loopsLeftOffAreForgotten() {
        for (String left : new String[] {"loop 9;stop;end;", "loop 99;month 1;month 1;month 1;month 1;end;"}) {
            DitchSaint x = Due.with("", left);
            x.live(0);
            Due.years(x, "when lies east;month 1;end;");
            Due.is(x, "51 a when in its place", x.live(0), 2);
            lived(x, "once", 0, 1, 0, 0, 0);
            Due.years(x, "loop 2;month 1;end;");
            Due.is(x, "51 a loop in its place", x.live(0), 3);
            lived(x, "twice", 0, 2, 0, 0, 0);
            Due.yes(x, "53 of that", x.mean(0, 1));
        }
    }

    private static void meanOf1To20() {
        for (int many : new int[] {FAR[0], -1, 0, 21, FAR[1]}) {
            Refused.with(5, "53 many " + many, x -> x.mean(0, many));
            Refused.with(5, "53 many " + many + " ahead of no years", DitchSaint::new, x -> x.mean(0, many));
        }
        String parish = "odds 8;right east here worth 1" + ALL;
        for (int many : new int[] {1, 2, 19, 20}) {
            long sum = 0;
            for (int i = 0; i < many; i++) {
                DitchSaint x = Due.with(parish, "loop 5;any;end;");
                x.live(300 + i);
                sum += x.chest(0);
            }
            DitchSaint x = Due.with(parish, "loop 5;any;end;");
            Due.yes(x, "53 many " + many, x.mean(300, many));
            Due.is("53 the mean of " + many, x.top() * many, sum * x.bottom());
            Due.yes("53 without a common divisor", divisor(x.top(), x.bottom()) == 1);
        }
    }

    private static long divisor(long a, long b) {
        return b == 0 ? a : divisor(b, a % b);
    }

    private static void meanOfTheLastSeed() {
        Refused.with(5, "53 the last is 10,000", x -> x.mean(9999, 2));
        Refused.with(5, "53 the last is 10,000", x -> x.mean(9981, 20));
        Refused.with(5, "53 the last is 10,000, ahead of no years", DitchSaint::new, x -> x.mean(9981, 20));
        DitchSaint x = Due.with("", "month 1;");
        Due.yes(x, "53 the last is 9,999", x.mean(9999, 1));
        Due.yes(x, "53 the last is 9,999", x.mean(9980, 20));
        Due.yes(x, "53 the first", x.mean(0, 20));
    }

    private static void meanWithoutYears() {
        Refused.with(8, "53 none at first", DitchSaint::new, x -> x.mean(0, 1));
        Refused.with(8, "53 none behind a parish", () -> Due.with("chest east 9;"), x -> x.mean(9980, 20));
    }

    private static void meanLeavesAll() {
        DitchSaint x = Refused.busy();
        DitchSaint y = Refused.busy();
        Due.yes(x, "53", x.mean(5, 20));
        long top = x.top();
        long bottom = x.bottom();
        x.whose(1);
        y.whose(1);
        Due.yes("53 all stays as it is", Look.through(x).equals(Look.through(y)));
        Due.yes("53 a mean above 0", top > 0 && bottom > 0);
    }

    private static void meanOfFullChests() {
        DitchSaint x = inMonth("right east here worth 50" + ALL + "right west away worth 50" + ALL, "month 24;", 199);
        Due.fraction(x, "53 both full", x.mean(0, 7), 19998, 1);
        DitchSaint y = Due.with("", "month 1;");
        Due.fraction(y, "53 0 is 0 by 1", y.mean(0, 20), 0, 1);
    }
}
