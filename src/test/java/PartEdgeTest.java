import java.util.function.ToIntFunction;

/** Edges of what stands in a PARISH: its NUMBERS, how many there may be, what is told once, what is there without. */
public final class PartEdgeTest {
    public static void main(String[] args) {
        numbers();
        monthsOfARight();
        withoutAPart();
        asMany();
        oneTooMany();
        numberedAsTheyStand();
        noMonths();
        allMonths();
        monthToldTwice();
        rulesToldTwice();
        liesToldTwice();
        chestToldTwice();
        oneToThreeLiterals();
        fourthLiteral();
        oneQuestionThrice();
        questionsToldAhead();
        nameThatIsTaken();
        takenParishBeginsAnew();
        Due.end();
    }

    /** A NUMBER of a text, at the #, may be from least to most: just these are taken, and told as they are. */
    private static void number(String text, int least, int most, ToIntFunction<DitchSaint> told) {
        for (int number = least; number <= most; number++) {
            DitchSaint x = Due.with(text.replace("#", Integer.toString(number)));
            Due.is(x, "10 " + number + " in " + text, told.applyAsInt(x), number);
        }
        int place = text.indexOf('#');
        for (int number : new int[] {least - 1, most + 1, most + 256, 9999}) {
            if (number >= 0) {
                Faulty.parish(text.replace("#", Integer.toString(number)), 4, place);
            }
        }
        Faulty.parish(text.replace("#", "10000"), 1, place);
        Faulty.parish(text.replace("#", "east"), 2, place);
        Faulty.parish(text.substring(0, place), 2, place);
    }

    private static void numbers() {
        number("odds #;", 0, 16, x -> x.many(5));
        number("toll #;", 0, 99, x -> x.many(6));
        number("war #;", 0, 99, x -> x.many(7));
        number("chest east #;", 0, 999, x -> x.chest(0));
        number("chest west #;", 0, 999, x -> x.chest(1));
        number("right east late # worth 5 in;", 1, 6, x -> x.right(0, 2));
        number("right west late 2 worth # in;", 1, 50, x -> x.right(0, 3));
        number("right west here worth # in;", 1, 50, x -> x.right(0, 3));
        number("debt east sum # left 5;", 1, 99, x -> x.debt(0, 1));
        number("debt west sum 5 left #;", 1, 24, x -> x.debt(0, 2));
        number("witness # 5;", 0, 16, x -> x.witness(0, 0));
        number("witness 5 #;", 0, 16, x -> x.witness(0, 1));
    }

    private static void monthsOfARight() {
        for (int month = 0; month <= 11; month++) {
            DitchSaint x = Due.with("right east here worth 5 in " + month + ";");
            Due.is(x, "10 month " + month, x.right(0, 4), 1 << month);
        }
        Faulty.parish("right east here worth 5 in 12;", 4, 27);
        Faulty.parish("right east here worth 5 in 9999;", 4, 27);
        Faulty.parish("right east here worth 5 in 11 12;", 4, 30);
        Faulty.parish("right east here worth 5 in 12 12;", 4, 27);
        Faulty.parish("right east here worth 5 in 32;", 4, 27);
    }

    private static void withoutAPart() {
        DitchSaint x = Due.with("war 6;");
        int[] due = {0, 0, 0, 0, 0, 8, 2, 6, 0, 0, 0, 0};
        for (int i = 0; i < due.length; i++) {
            Due.is(x, "10 without: " + i, x.many(i), due[i]);
        }
        DitchSaint y = Due.with("odds 0;toll 0;chest west 3;");
        Due.is(y, "10 0 is told", y.many(5), 0);
        Due.is(y, "10 0 is told", y.many(6), 0);
        Due.is(y, "10 war without", y.many(7), 5);
        Due.is(y, "10 chest without", y.chest(0), 0);
        Due.is(y, "10 chest told", y.chest(1), 3);
    }

    private static final String[] PARTS = {"right east here worth 1 in;", "debt east sum 1 left 1;", "ask #;", "clause a;", "witness 1 1;"};
    private static final int[] MOST = {8, 5, 6, 8, 6};

    private static String parts(int sort, int many) {
        StringBuilder text = new StringBuilder(sort == 3 ? "ask a;" : "");
        for (int i = 0; i < many; i++) {
            text.append(PARTS[sort].replace('#', (char) ('a' + i)));
        }
        return text.toString();
    }

    private static void asMany() {
        for (int sort = 0; sort < PARTS.length; sort++) {
            for (int many : new int[] {0, 1, MOST[sort] - 1, MOST[sort]}) {
                DitchSaint x = new DitchSaint();
                Due.is(x, "10 as many " + PARTS[sort], Due.parish(x, parts(sort, many)), sort == 0 ? many : 0);
                Due.is(x, "13 as many " + PARTS[sort], x.many(sort), many);
            }
        }
        String all = parts(0, 8) + parts(1, 5) + parts(2, 6) + parts(3, 8).substring(6) + parts(4, 6);
        DitchSaint x = Due.with(all);
        for (int sort = 0; sort < PARTS.length; sort++) {
            Due.is(x, "10 as many of each as may be", x.many(sort), MOST[sort]);
        }
    }

    private static void oneTooMany() {
        for (int sort = 0; sort < PARTS.length; sort++) {
            String full = parts(sort, MOST[sort]);
            String word = PARTS[sort].substring(0, PARTS[sort].indexOf(' '));
            Faulty.parish(full + parts(sort, MOST[sort] + 1).substring(full.length()), 6, full.length());
            Faulty.parish(full + "  " + word, 6, full.length() + 2);
            Faulty.parish(full + word + " !", 6, full.length());
            Faulty.parish(full + "war 5;" + word + " 9999;", 6, full.length() + 6);
        }
    }

    private static void numberedAsTheyStand() {
        DitchSaint x = Due.with("witness 1 2;ask b;right west away worth 3 in 4;debt west sum 5 left 6;ask a;clause a not b;"
                + "toll 7;witness 8 9;debt east sum 10 left 11;right east late 6 worth 12 in 1 0;clause b b;");
        int[][] rights = {{1, 1, -1, 3, 16}, {0, 2, 6, 12, 3}};
        int[][] debts = {{1, 5, 6}, {0, 10, 11}};
        int[][] clauses = {{2, 1}, {1, 0}};
        int[][] witnesses = {{1, 2}, {8, 9}};
        for (int i = 0; i < 2; i++) {
            for (int what = 0; what < 5; what++) {
                Due.is("15 right " + i, x.right(i, what), rights[i][what]);
            }
            for (int what = 0; what < 3; what++) {
                Due.is("16 debt " + i, x.debt(i, what), debts[i][what]);
            }
            for (int what = 0; what < 2; what++) {
                Due.is("19 clause " + i, x.clause(i, what), clauses[i][what]);
                Due.is("20 witness " + i, x.witness(i, what), witnesses[i][what]);
            }
        }
    }

    private static void noMonths() {
        for (String kind : new String[] {"here", "away", "late 1"}) {
            DitchSaint x = Due.with("right east " + kind + " worth 5 in;right west " + kind + " worth 5 in;");
            Due.is(x, "10 no months", x.right(0, 4), 0);
            Due.is(x, "10 no months, nothing bears", x.bears(), 0);
            Due.is(x, "10 no months, nothing comes", x.month(12), 0);
        }
    }

    private static void allMonths() {
        DitchSaint x = Due.with("right east here worth 5 in 11 10 9 8 7 6 5 4 3 2 1 0;right east here worth 5 in 0 1 2 3 4 5 6 7 8 9 10 11;");
        Due.is(x, "10 all months down", x.right(0, 4), 4095);
        Due.is(x, "10 all months up", x.right(1, 4), 4095);
        Faulty.parish("right east here worth 5 in 0 1 2 3 4 5 6 7 8 9 10 11 0;", 5, 53);
        Faulty.parish("right east here worth 5 in 0 1 2 3 4 5 6 7 8 9 10 11 11;", 5, 53);
        Faulty.parish("right east here worth 5 in 0 1 2 3 4 5 6 7 8 9 10 11 12;", 4, 53);
        Faulty.parish("right east here worth 5 in 0 1 2 3 4 5 6 7 8 9 10 11 in;", 2, 53);
    }

    private static void monthToldTwice() {
        for (int month = 0; month <= 11; month++) {
            String once = "right east here worth 5 in " + month;
            String between = once + " " + (month + 1) % 12;
            Faulty.parish(once + " " + month + ";", 5, once.length() + 1);
            Faulty.parish(between + " 00" + month + ";", 5, between.length() + 1);
        }
        DitchSaint x = Due.with("right east here worth 5 in 3;right east here worth 5 in 3;");
        Due.is(x, "10 a month of another right", x.right(1, 4), 8);
    }

    private static void rulesToldTwice() {
        for (String word : new String[] {"odds", "toll", "war"}) {
            String first = word + " 3;";
            Faulty.parish(first + first, 5, first.length());
            Faulty.parish(first + "lies west; " + word, 5, first.length() + 11);
            Faulty.parish(first + word + " 9999;", 5, first.length());
            Faulty.parish(first + word + " !", 5, first.length());
        }
        DitchSaint x = Due.with("odds 3;toll 3;war 3;");
        Due.is(x, "10 each once", x.many(7), 3);
        Due.is(x, "10 once in the next text", Due.parish(x, "odds 4;toll 4;war 4;lies east;chest east 1;chest west 1;"), 0);
    }

    private static void liesToldTwice() {
        Faulty.parish("lies east;lies east;", 5, 10);
        Faulty.parish("lies east;lies west;", 5, 10);
        Faulty.parish("lies west;odds 1;lies", 5, 17);
    }

    private static void chestToldTwice() {
        Faulty.parish("chest east 1;chest east 1;", 5, 19);
        Faulty.parish("chest west 1;chest west 1;", 5, 19);
        Faulty.parish("chest east 1;chest west 1;chest west 1000;", 5, 32);
        Faulty.parish("chest west 1;chest east 1;chest east", 5, 32);
        Faulty.parish("chest east 1;chest here;", 2, 19);
        DitchSaint x = Due.with("chest west 1;chest east 2;");
        Due.is(x, "10 of each side once", x.chest(1), 1);
        Due.is(x, "10 of each side once", x.chest(0), 2);
    }

    private static void oneToThreeLiterals() {
        DitchSaint x = Due.with("ask a;ask b;ask c;clause a;clause not a;clause a not b;clause a b not c;clause not a not b not c;");
        int[][] due = {{1, 0}, {0, 1}, {1, 2}, {3, 4}, {0, 7}};
        for (int i = 0; i < due.length; i++) {
            Due.is(x, "19 so " + i, x.clause(i, 0), due[i][0]);
            Due.is(x, "19 not so " + i, x.clause(i, 1), due[i][1]);
        }
        Faulty.parish("ask a;clause ;", 2, 13);
        Faulty.parish("ask a;clause", 2, 12);
        Faulty.parish("ask a;clause not;", 2, 16);
        Faulty.parish("ask a;clause a not;", 2, 18);
    }

    private static void fourthLiteral() {
        Faulty.parish("ask a;clause a a a a;", 5, 19);
        Faulty.parish("ask a;clause a a a not a;", 5, 19);
        Faulty.parish("ask a;clause a a a not", 5, 19);
        Faulty.parish("ask a;clause a a a not b;", 5, 19);
        Faulty.parish("ask a;clause not a not a not a a;", 5, 31);
        Faulty.parish("ask a;clause a a a b;", 3, 19);
        Faulty.parish("ask a;clause a a a abcdefghi;", 2, 19);
        Faulty.parish("ask a;clause a a a 1;", 2, 19);
        Faulty.parish("ask a;clause a a a !", 1, 19);
        Faulty.parish("ask a;clause a a a", 2, 18);
        Faulty.parish("ask a;clause a a b a;", 3, 17);
    }

    private static void oneQuestionThrice() {
        DitchSaint x = Due.with("ask a;clause a a a;clause a not a;clause not a not a;");
        Due.is(x, "10 a set", x.clause(0, 0), 1);
        Due.is(x, "10 so and not so", x.clause(1, 0) * 2 + x.clause(1, 1), 3);
        Due.is(x, "10 not so, twice", x.clause(2, 1), 1);
    }

    private static void questionsToldAhead() {
        Faulty.parish("clause a;ask a;", 3, 7);
        Faulty.parish("clause not a;ask a;", 3, 11);
        Faulty.parish("ask a;clause b;ask b;", 3, 13);
        Faulty.parish("ask a;clause a b;", 3, 15);
        DitchSaint x = Due.with("ask a;clause a;ask b;clause b;");
        Due.is(x, "10 told just ahead", x.clause(1, 0), 2);
    }

    private static void nameThatIsTaken() {
        Faulty.parish("ask a;ask a;", 3, 10);
        Faulty.parish("ask a;ask b;ask c;ask d;ask e;ask a;", 3, 34);
        Faulty.parish("ask a;ask b;ask c;ask d;ask e;ask e", 3, 34);
        Faulty.parish("ask a;ask b;ask c;ask d;ask e;ask f;ask a;", 6, 36);
        Faulty.parish("ask abcdefgh;ask abcdefgh;", 3, 17);
    }

    private static void takenParishBeginsAnew() {
        DitchSaint x = Due.with("toll 0;lies west;debt east sum 1 left 1;right east here worth 1 in 0;", "stop;");
        x.month(9);
        x.carry(1, 1);
        x.month(2);
        x.swear(1, 1, 9);
        Due.is(x, "10 taken", Due.parish(x, "lies west;"), 0);
        int[] due = {0, 0, 0, 0, 0, 8, 2, 5, 1, 0, 0, 0};
        for (int i = 0; i < due.length; i++) {
            Due.is(x, "10 anew: " + i, x.many(i), due[i]);
        }
        for (int ago = 0; ago <= 6; ago++) {
            Due.is(x, "10 has lain there ever", x.layAgo(ago), 1);
        }
        Due.is(x, "10 chests, too", x.chest(0) + x.chest(1), 0);
        Due.not(x, "10 no years", x.live(0), 8);
        Due.not(x, "10 no years to mean", x.mean(0, 1), 8);
    }
}
