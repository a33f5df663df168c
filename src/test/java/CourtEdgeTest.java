/** Edges of RULINGS, games, odds and shares, promises 42 to 50. */
public final class CourtEdgeTest {
    private static final int[] FAR = {Integer.MIN_VALUE, Integer.MAX_VALUE};
    private static final String SIX = "ask a;ask b;ask c;ask d;ask e;ask f;";

    public static void main(String[] args) {
        rulingsWithoutQuestions();
        rulingsWithoutClauses();
        rulingsOfOne();
        noRulings();
        rulingsBelowAndBehind();
        strikeOfNone();
        strikeOfAsFewAsCanBe();
        strikeOfSeveral();
        strikeOfEight();
        sureOfNoQuestion();
        sureOfEach();
        notSure();
        turnsAre0To4();
        gameOfNoTurn();
        gameBelow0();
        gameOfMonthsThatNobodyHas();
        moveOfTheFirst();
        moveOfNone();
        whoseByWitnesses();
        whoseByNone();
        whoseCannotBe();
        whoseOfOneSide();
        sharesOfEmptyChests();
        sharesOfOneChest();
        sharesWithoutCommonDivisor();
        Due.end();
    }

    private static void rulingsWithoutQuestions() {
        DitchSaint x = new DitchSaint();
        Due.is(x, "42 one, of no question", x.rulings(), 1);
        Due.is(x, "43 the first", x.rulingAt(0), 0);
        Due.not(x, "43 no second", x.rulingAt(1), 8);
        Due.is(x, "44 none to strike", x.strike(), 0);
        Due.is(x, "45 none to strike", x.strikeSet(), 0);
    }

    private static void rulingsWithoutClauses() {
        for (int n = 1; n <= 6; n++) {
            DitchSaint x = Due.with(SIX.substring(0, 6 * n));
            Due.is(x, "42 all of " + n, x.rulings(), 1 << n);
            for (int k = 0; k < 1 << n; k++) {
                Due.is(x, "43 by numbers", x.rulingAt(k), k);
            }
            Due.not(x, "43 no more", x.rulingAt(1 << n), 8);
        }
    }

    private static void rulingsOfOne() {
        DitchSaint x = Due.with(SIX + "clause a;clause not b;clause c;clause not d;clause e;clause f;");
        Due.is(x, "42 one", x.rulings(), 1);
        Due.is(x, "43 that one", x.rulingAt(0), 1 + 4 + 16 + 32);
        Due.not(x, "43 no more", x.rulingAt(1), 8);
        DitchSaint y = Due.with(SIX + "clause a;");
        Due.is(y, "42 half", y.rulings(), 32);
        Due.is(y, "43 the first", y.rulingAt(0), 1);
        Due.is(y, "43 the last", y.rulingAt(31), 63);
        Due.not(y, "43 no more", y.rulingAt(32), 8);
        DitchSaint z = Due.with("ask a;ask b;ask c;clause a b c;");
        Due.is(z, "42 one literal is enough", z.rulings(), 7);
        Due.is(z, "43 but one is so", z.rulingAt(0), 1);
    }

    private static void noRulings() {
        DitchSaint x = Due.with("ask a;clause a;clause not a;");
        Due.is(x, "42 none", x.rulings(), 0);
        Due.not(x, "43 none", x.rulingAt(0), 8);
        Due.not(x, "46 none", x.sure(0), 8);
        Due.is(x, "44 one", x.strike(), 1);
        Due.is(x, "45 the least", x.strikeSet(), 1);
    }

    private static void rulingsBelowAndBehind() {
        for (int k : new int[] {FAR[0], -1, 64, FAR[1]}) {
            Refused.with(8, "43 k " + k, () -> Due.with(SIX), x -> x.rulingAt(k));
        }
        Refused.with(8, "43 of none", x -> x.rulingAt(0));
        Refused.with(8, "43 -1 of none", x -> x.rulingAt(-1));
    }

    private static void strikeOfNone() {
        DitchSaint x = Due.with(SIX + "clause a b c;clause not a not b not c;clause f;");
        Due.is(x, "44 there is a ruling with all", x.strike(), 0);
        Due.is(x, "45 none", x.strikeSet(), 0);
    }

    private static void strikeOfAsFewAsCanBe() {
        DitchSaint x = Due.with("ask a;" + "clause a;".repeat(5) + "clause not a;".repeat(3));
        Due.is(x, "44 three, not five", x.strike(), 3);
        Due.is(x, "45 the fewest, not the least as a number", x.strikeSet(), 32 + 64 + 128);
    }

    private static void strikeOfSeveral() {
        DitchSaint x = Due.with("ask a;" + "clause a;".repeat(4) + "clause not a;".repeat(4));
        Due.is(x, "44 four or four", x.strike(), 4);
        Due.is(x, "45 the least as a number", x.strikeSet(), 15);
        DitchSaint y = Due.with(SIX + "clause a;clause not a;clause b;clause not b;clause c;clause not c;clause d;clause not d;");
        Due.is(y, "44 one of each two", y.strike(), 4);
        Due.is(y, "45 the first of each two", y.strikeSet(), 1 + 4 + 16 + 64);
    }

    private static void strikeOfEight() {
        StringBuilder text = new StringBuilder("ask a;ask b;ask c;");
        for (int set = 0; set < 8; set++) {
            text.append("clause ").append((set & 1) == 0 ? "a" : "not a").append((set & 2) == 0 ? " b" : " not b")
                    .append((set & 4) == 0 ? " c;" : " not c;");
        }
        DitchSaint x = Due.with(text.toString());
        Due.is(x, "42 none", x.rulings(), 0);
        Due.is(x, "44 any one", x.strike(), 1);
        Due.is(x, "45 the first", x.strikeSet(), 1);
        DitchSaint y = Due.with(SIX + "clause a;clause not a b;clause not b c;clause not c d;clause not d e;clause not e f;clause a f;clause not f;");
        Due.is(y, "44 one of eight", y.strike(), 1);
        Due.is(y, "45 the first of them", y.strikeSet(), 2);
    }

    private static void sureOfNoQuestion() {
        for (int question : new int[] {FAR[0], -1, 2, 6, FAR[1]}) {
            Refused.with(2, "46 question " + question, x -> x.sure(question));
        }
        Refused.with(2, "46 none at first", DitchSaint::new, x -> x.sure(0));
        Refused.with(2, "46 2 ahead of 8", () -> Due.with("ask a;clause a;clause not a;"), x -> x.sure(1));
    }

    private static void sureOfEach() {
        for (int question = 0; question < 6; question++) {
            char name = (char) ('a' + question);
            DitchSaint x = Due.with(SIX + "clause " + name + ";");
            DitchSaint y = Due.with(SIX + "clause not " + name + ";");
            for (int of = 0; of < 6; of++) {
                if (of == question) {
                    Due.is(x, "46 it is true", x.sure(of), 1);
                    Due.is(y, "46 it is not", y.sure(of), 0);
                } else {
                    Due.not(x, "46 it is not sure", x.sure(of), 8);
                    Due.not(y, "46 it is not sure", y.sure(of), 8);
                }
            }
        }
    }

    private static void notSure() {
        Refused.with(8, "46 not sure", () -> Due.with("ask a;ask b;clause a b;"), x -> x.sure(0));
        Refused.with(8, "46 no ruling", x -> x.sure(0));
        DitchSaint x = Due.with("ask a;ask b;clause a b;clause a not b;");
        Due.is(x, "46 by two clauses", x.sure(0), 1);
        Due.not(x, "46 the other", x.sure(1), 8);
    }

    private static void turnsAre0To4() {
        for (int turns : new int[] {FAR[0], -1, 5, FAR[1]}) {
            Refused.with(5, "47 turns " + turns, x -> x.game(turns));
            Refused.with(5, "48 turns " + turns, x -> x.moveOf(turns));
        }
        Refused.with(5, "48 turns 0", x -> x.moveOf(0));
        DitchSaint x = Due.with("lies west;right west here worth 1 in 0 1 2 3 4 5;");
        int[] due = {-6, -5, -5, -4, -4};
        for (int turns = 0; turns <= 4; turns++) {
            Due.is(x, "47 turns " + turns, x.game(turns), due[turns]);
        }
        for (int turns = 1; turns <= 4; turns++) {
            Due.is(x, "48 turns " + turns, x.moveOf(turns), 0);
        }
    }

    private static void gameOfNoTurn() {
        String rights = "right east here worth 3 in 0 1;right west here worth 5 in 0;";
        DitchSaint x = Due.with(rights);
        Due.is(x, "47 he lies in east", x.game(0), 6);
        DitchSaint y = Due.with("lies west;" + rights);
        Due.is(y, "47 he lies in west", y.game(0), -5);
        DitchSaint z = new DitchSaint();
        for (int turns = 0; turns <= 4; turns++) {
            Due.is(z, "47 no rights", z.game(turns), 0);
        }
    }

    private static void gameBelow0() {
        DitchSaint x = Due.with("lies west;right west here worth 1 in 7;");
        Due.is(x, "47 -1 is no NONE", x.game(0), -1);
        Due.is(x, "47 east claims it", x.game(1), 0);
        DitchSaint y = Due.with("right west away worth 1 in 7;");
        Due.is(y, "47 -1 is no NONE", y.game(4), -1);
    }

    private static void gameOfMonthsThatNobodyHas() {
        DitchSaint x = Due.with("right west here worth 9 in 3;");
        Due.is(x, "47 west can't have it then", x.game(2), 0);
        Due.is(x, "48 so east claims it", x.moveOf(2), 3);
        DitchSaint y = Due.with("right west here worth 9 in 3 8;");
        Due.is(y, "47 west has the other one", y.game(2), -9);
        Due.is(y, "48 so all are as good", y.moveOf(2), 0);
        DitchSaint z = Due.with("lies west;right east here worth 9 in 3 8;");
        Due.is(z, "47 east has one", z.game(1), 9);
        Due.is(z, "47 west claims the other", z.game(3), 9);
        Due.is(z, "47 each twice", z.game(4), 9);
        z.grant(0, 11, true);
        Due.is(z, "47 east has two of three", z.game(3), 18);
    }

    private static void moveOfTheFirst() {
        DitchSaint x = new DitchSaint();
        for (int turns = 1; turns <= 4; turns++) {
            Due.is(x, "48 all as good, none comes last", x.moveOf(turns), 0);
        }
        for (int month = 0; month < 12; month++) {
            DitchSaint y = Due.with("lies west;right east here worth 1 in " + month + ";");
            Due.is(y, "48 month " + month, y.moveOf(1), month);
            Due.is(y, "48 month " + month, y.moveOf(4), month);
        }
        DitchSaint z = Due.with("lies west;right east here worth 1 in 5 9;right east here worth 1 in 9;");
        Due.is(z, "48 the better one, not the first", z.moveOf(1), 9);
        z.price(1, 50);
        z.price(0, 50);
        z.grant(1, 9, false);
        Due.is(z, "48 the first of both", z.moveOf(1), 5);
    }

    private static void moveOfNone() {
        String text = "lies west;right east away worth 1 in 0 1 2 3 4 5 6 7 8 9 10 11;";
        for (int turns = 1; turns <= 4; turns++) {
            int of = turns;
            Refused.with(8, "48 none is best of " + turns, () -> Due.with(text), x -> x.moveOf(of));
        }
        DitchSaint x = Due.with(text);
        Due.is(x, "47 none is claimed", x.game(1), 12);
        x.grant(0, 11, false);
        Due.is(x, "48 the last is as good as none", x.moveOf(1), 11);
    }

    /** A busy one has two WITNESSES. */
    private static void whoseByWitnesses() {
        for (int n : new int[] {FAR[0], -1, 3, FAR[1]}) {
            Refused.with(5, "49 by " + n, x -> x.whose(n));
        }
        Refused.with(5, "49 by one of none", DitchSaint::new, x -> x.whose(1));
        Refused.with(5, "49 by -1 of none", DitchSaint::new, x -> x.whose(-1));
        DitchSaint x = Due.with("odds 8;" + "witness 1 3;".repeat(6));
        long threes = 1;
        for (int n = 0; n <= 6; n++) {
            Due.fraction(x, "49 by " + n, x.whose(n), 1, 1 + threes);
            threes *= 3;
        }
        Due.not(x, "49 by a seventh", x.whose(7), 5);
        Due.is("49 is as it was", x.bottom(), 730);
    }

    private static void whoseByNone() {
        for (int odds = 0; odds <= 16; odds++) {
            DitchSaint x = Due.with("odds " + odds + ";witness 0 0;");
            Due.yes(x, "49 by none", x.whose(0));
            Due.is("49 as the odds are", x.top() * 16, odds * x.bottom());
            Due.yes("49 without a common divisor", x.bottom() == 1 || x.top() % 2 == 1);
        }
    }

    private static void whoseCannotBe() {
        Refused.with(8, "49 told by neither", () -> Due.with("witness 0 0;"), x -> x.whose(1));
        Refused.with(8, "49 told by each but one", () -> Due.with("witness 0 5;witness 5 0;"), x -> x.whose(2));
        Refused.with(8, "49 he was of east, who does not tell", () -> Due.with("odds 16;witness 0 16;"), x -> x.whose(1));
        Refused.with(8, "49 he was of west, who does not tell", () -> Due.with("odds 0;witness 16 0;"), x -> x.whose(1));
        DitchSaint x = Due.with("odds 4;witness 8 8;witness 0 0;");
        Due.fraction(x, "49 by the first alone", x.whose(1), 1, 4);
        Due.not(x, "49 by both", x.whose(2), 8);
        Due.is("49 the top is as it was", x.top(), 1);
        Due.is("49 the bottom is as it was", x.bottom(), 4);
    }

    private static void whoseOfOneSide() {
        DitchSaint x = Due.with("odds 1;witness 1 0;witness 16 16;");
        Due.fraction(x, "49 of east for sure", x.whose(1), 1, 1);
        Due.fraction(x, "49 of east for sure", x.whose(2), 1, 1);
        DitchSaint y = Due.with("odds 15;witness 0 1;");
        Due.fraction(y, "49 0 is 0 by 1", y.whose(1), 0, 1);
        DitchSaint z = Due.with("odds 15;" + "witness 16 16;".repeat(6));
        Due.fraction(z, "49 as large as can be", z.whose(6), 15, 16);
        DitchSaint v = Due.with("odds 15;" + "witness 15 1;".repeat(6));
        Due.fraction(v, "49 as unlike as can be", v.whose(6), 170859375, 170859376);
    }

    private static void sharesOfEmptyChests() {
        for (int side = 0; side < 2; side++) {
            int of = side;
            Refused.with(8, "50 both are empty", DitchSaint::new, x -> x.share(of));
        }
        Refused.with(2, "50 2 ahead of 8", DitchSaint::new, x -> x.share(2));
    }

    private static void sharesOfOneChest() {
        for (int side = 0; side < 2; side++) {
            DitchSaint x = Due.with(side == 0 ? "chest east 1;" : "chest west 999;");
            Due.fraction(x, "50 all", x.share(side), 1, 1);
            Due.fraction(x, "50 none: 0 by 1", x.share(1 - side), 0, 1);
        }
    }

    private static void sharesWithoutCommonDivisor() {
        DitchSaint x = Due.with("chest east 998;chest west 998;");
        Due.fraction(x, "50 half", x.share(0), 1, 2);
        DitchSaint y = Due.with("chest east 999;chest west 998;");
        Due.fraction(y, "50 no common divisor", y.share(0), 999, 1997);
        Due.fraction(y, "50 no common divisor", y.share(1), 998, 1997);
        DitchSaint z = Due.with("chest east 360;chest west 240;");
        Due.fraction(z, "50 the greatest one", z.share(0), 3, 5);
    }
}
