import java.util.function.ToIntFunction;

/** Edges of what stands in YEARS: NUMBERS, 30 STEPS, whens and loops within others, ends. */
public final class StepEdgeTest {
    /** He may be carried, there is enough in each CHEST, and five DEBTS, each with a SUM of its own. */
    private static final String PARISH = "chest east 500;chest west 500;debt east sum 10 left 24;debt east sum 20 left 24;"
            + "debt east sum 30 left 24;debt east sum 40 left 24;debt east sum 50 left 24;";

    public static void main(String[] args) {
        months();
        carries();
        sworn();
        paid();
        loops();
        chests();
        atMost30Steps();
        endIsNoStep();
        withinThreeOthers();
        endsAndBeginnings();
        testsOfAWhen();
        stepsOfAParishAreNone();
        emptyWhenAndLoop();
        faultKeepsNothingOpen();
        Due.end();
    }

    /** A NUMBER at the # from least to most: just these are taken, and lived by. */
    private static void number(String text, int least, int most, ToIntFunction<DitchSaint> told) {
        for (int number = least; number <= most; number++) {
            DitchSaint x = Due.with(PARISH, text.replace("#", Integer.toString(number)));
            Due.yes("51 lived", x.live(0) > 0);
            Due.is(x, "11 " + number + " in " + text, told.applyAsInt(x), number);
        }
        wrong(text, least, most);
    }

    private static void wrong(String text, int least, int most) {
        int place = text.indexOf('#');
        for (int number : new int[] {least - 1, most + 1, most + 256, 9999}) {
            if (number >= 0) {
                Faulty.years(text.replace("#", Integer.toString(number)), 4, place);
            }
        }
        Faulty.years(text.replace("#", "10000"), 1, place);
        Faulty.years(text.replace("#", "end"), 2, place);
        Faulty.years(text.substring(0, place), 2, place);
    }

    private static void months() {
        number("month #;", 1, 24, x -> x.lived(1));
    }

    private static void carries() {
        for (int number = 1; number <= 20; number++) {
            DitchSaint x = Due.with(PARISH, "carry " + number + " " + number + ";");
            x.live(0);
            Due.is(x, "11 carried by " + number, x.lived(2), 1);
        }
        wrong("carry # 1;", 1, 20);
        wrong("carry 1 #;", 1, 20);
    }

    private static void sworn() {
        String lapse = "month 24;swear west ";
        number(lapse + "# 9;", 1, 99, x -> x.debt(0, 1));
        number(lapse + "9 #;", 1, 24, x -> x.debt(0, 2));
        DitchSaint x = Due.with("", "swear east 3 4;swear west 5 6;");
        x.live(0);
        int[][] due = {{0, 3, 4}, {1, 5, 6}};
        for (int i = 0; i < 2; i++) {
            for (int what = 0; what < 3; what++) {
                Due.is(x, "11 sworn", x.debt(i, what), due[i][what]);
            }
        }
    }

    private static void paid() {
        number("pay #;", 0, 4, x -> (500 - x.chest(0)) / 10 - 1);
    }

    private static void loops() {
        number("loop #;month 1;end;", 1, 99, x -> x.lived(1));
    }

    private static void chests() {
        for (int number : new int[] {0, 1, 499, 500, 501, 9998, 9999}) {
            for (String compares : new String[] {"<", "=", ">"}) {
                DitchSaint x = Due.with(PARISH, "when chest west " + compares + number + ";month 1;end;");
                boolean is = compares.equals("<") ? 500 < number : compares.equals("=") ? 500 == number : 500 > number;
                Due.is(x, "51 when chest west " + compares + number, x.live(0), is ? 2 : 1);
            }
        }
        Faulty.years("when chest east<10000;end;", 1, 16);
        DitchSaint y = Due.with("chest west 5;right east here worth 50 in 0 1 2 3 4 5 6 7 8 9 10 11;", "when chest east=9999;stop;end;");
        y.month(99);
        y.month(99);
        Due.is(y, "51 not yet full", y.live(0), 1);
        y.month(99);
        Due.is(y, "51 full", y.live(0), 2);
    }

    private static void atMost30Steps() {
        DitchSaint x = new DitchSaint();
        Due.is(x, "11 29", Due.years(x, "any;".repeat(29)), 29);
        Due.is(x, "11 30", Due.years(x, "any;".repeat(30)), 30);
        Faulty.years("any;".repeat(31), 6, 120);
        for (String word : new String[] {"month", "carry", "swear", "pay", "any", "when", "loop", "stop"}) {
            Faulty.years("any;".repeat(30) + "\n" + word + " !", 6, 121);
        }
        Faulty.years("any;".repeat(30) + "owes", 2, 120);
        Faulty.years("any;".repeat(30) + "end;", 2, 120);
        Faulty.years("any;".repeat(30) + ";", 2, 120);
    }

    private static void endIsNoStep() {
        DitchSaint x = new DitchSaint();
        String pairs = "loop2;end;".repeat(30);
        Due.is("11 as much as 300 bytes can have", pairs.length(), 300);
        Due.is(x, "11 30 loops with their ends", Due.years(x, pairs), 30);
        Due.is(x, "51 30 loops with their ends", x.live(0), 30);
        Due.is(x, "52 none is left", x.lived(4), 0);
        Due.is(x, "11 30 steps, 13 ends", Due.years(x, "loop 1;end;".repeat(13) + "any;".repeat(17)), 30);
        Faulty.years("loop 1;end;".repeat(13) + "any;".repeat(17) + "any;", 6, 13 * 11 + 17 * 4);
        Due.is(x, "11 an end behind 30", Due.years(x, "loop 1;" + "any;".repeat(29) + "end;"), 30);
        Faulty.years("loop 1;" + "any;".repeat(29) + "end;any;", 6, 127);
        Faulty.years("loop 1;" + "any;".repeat(30) + "end;", 6, 123);
    }

    private static void withinThreeOthers() {
        String[] begin = {"loop 1;", "when owes east;"};
        for (int set = 0; set < 16; set++) {
            String three = begin[set & 1] + begin[set >> 1 & 1] + begin[set >> 2 & 1];
            String fourth = begin[set >> 3 & 1];
            DitchSaint x = new DitchSaint();
            Due.is(x, "11 within two others", Due.years(x, three + "any;end;end;end;"), 4);
            Faulty.years(three + fourth + "end;end;end;end;", 7, three.length());
            Faulty.years(three + "any; " + fourth.substring(0, 4) + "!", 7, three.length() + 5);
            Due.is(x, "11 behind an end", Due.years(x, three + "end;" + fourth + "end;end;end;"), 4);
            Due.is(x, "11 behind all ends", Due.years(x, three + "end;end;end;" + three + "end;end;end;"), 6);
            Faulty.years(three + "end;" + fourth + fourth + "end;", 7, three.length() + 4 + fourth.length());
        }
    }

    private static void endsAndBeginnings() {
        Faulty.years("end;", 2, 0);
        Faulty.years("any;end;", 2, 4);
        Faulty.years("loop 1;end;end;", 2, 11);
        Faulty.years("when lies east;end;end", 2, 19);
        Faulty.years("loop 1;", 2, 7);
        Faulty.years("loop 1;when lies east;end;", 2, 26);
        Faulty.years("loop 1;end", 2, 10);
        Faulty.years("loop 1;end end;", 2, 11);
        Faulty.years("loop 1;end 1;", 2, 11);
        Faulty.years("loop 1 end;", 2, 7);
    }

    private static void testsOfAWhen() {
        DitchSaint x = new DitchSaint();
        for (String side : new String[] {"east", "west"}) {
            for (String test : new String[] {"lies #", "owes #", "chest #<1", "chest # > 2", "chest #=3"}) {
                Due.is(x, "11 " + test, Due.years(x, "when " + test.replace("#", side) + ";end;"), 1);
            }
        }
        Faulty.years("when east;end;", 2, 5);
        Faulty.years("when not lies east;end;", 2, 5);
        Faulty.years("when lies;end;", 2, 9);
        Faulty.years("when lies east<1;end;", 2, 14);
        Faulty.years("when owes east>1;end;", 2, 14);
        Faulty.years("when chest east;end;", 2, 15);
        Faulty.years("when chest east;1;end;", 2, 15);
        Faulty.years("when chest east<;end;", 2, 16);
        Faulty.years("when chest east<west;end;", 2, 16);
        Faulty.years("when chest<1;end;", 2, 10);
        Faulty.years("when lies east end;", 2, 15);
    }

    private static void stepsOfAParishAreNone() {
        for (String part : new String[] {"odds 1;", "toll 1;", "war 1;", "lies east;", "chest east 1;", "right", "debt", "ask a;", "clause", "witness 1 1;"}) {
            Faulty.years(part, 2, 0);
        }
        for (String step : new String[] {"month 1;", "carry 1 1;", "swear east 1 1;", "pay 0;", "any;", "when lies east;", "loop 1;", "end;", "stop;"}) {
            Faulty.parish(step, 2, 0);
        }
    }

    private static void emptyWhenAndLoop() {
        DitchSaint x = new DitchSaint();
        Due.is(x, "11 of nothing", Due.years(x, "loop 99;end;when lies east;end;when lies west;end;"), 3);
        Due.is(x, "51 of nothing", x.live(0), 3);
        Due.is(x, "52 nothing is left", x.lived(4), 0);
    }

    private static void faultKeepsNothingOpen() {
        DitchSaint x = new DitchSaint();
        Due.years(x, "loop 1;loop 1;loop 1;loop 1;");
        Due.is(x, "11 anew", Due.years(x, "loop 1;loop 1;loop 1;end;end;end;"), 3);
        Due.years(x, "loop 1;");
        Due.not(x, "11 no end to have", Due.years(x, "end;"), 10);
        Due.years(x, "any;".repeat(31));
        Due.is(x, "11 30 anew", Due.years(x, "any;".repeat(30)), 30);
    }
}
