/** Promises 9 to 12: the tape, and what FAULTS texts have. */
public final class TextTest {
    public static void main(String[] args) {
        tape();
        taken();
        parishFaults();
        tooMany();
        yearsFaults();
        told();
        behindOthers();
        Due.end();
    }

    private static void tape() {
        DitchSaint x = new DitchSaint();
        for (int i = 1; i <= 45; i++) {
            Due.is("9 feed", x.feed(0x20202020, 0x20202020, 0x20202020, 0x20202020, 0x20202020), 20 * i);
        }
        Due.is("9 901 bytes", x.feed(0, 0, 0, 0, 0), -1);
        Due.not(x, "10 above the tape", x.parish(901), 5);
        Due.not(x, "11 above 300", x.years(301), 5);
        Due.not(x, "10 below 0", x.parish(-1), 5);
        Due.not(x, "11 below 0", x.years(-1), 5);
        Due.is("9 the tape stays with 5", x.feed(0, 0, 0, 0, 0), -1);
        Due.is(x, "10 blanks", x.parish(900), 0);
        Due.not(x, "10 the tape is empty then", x.parish(1), 5);
        Due.is("9 from the beginning", x.feed(0x77617220, 0x373b2020, 0x20202020, 0x20202020, 0x20202020), 20);
        Due.is(x, "9 highest byte first", x.parish(6), 0);
        Due.is(x, "10 war", x.many(7), 7);
        Due.feed(x, "stop;  !            ");
        Due.is(x, "11 the first n", x.years(6), 1);
        Due.not(x, "11 the tape is empty then", x.years(1), 5);
        Due.feed(x, "stop!");
        x.years(5);
        Due.is("11 a fault", x.status(), 10);
        Due.not(x, "11 the tape is empty with 10, too", x.years(1), 5);
        Due.feed(x, "odds 12;");
        Due.not(x, "10 a number cut short", x.parish(6), 10);
        Due.is("10 the end is where it is cut", x.fault(1), 6);
        Due.feed(x, "odds 12345;");
        Due.not(x, "10 a number cut short", x.parish(8), 10);
        Due.is("10 it can't be", x.fault(0), 4);
        Due.feed(x, "stopping");
        Due.not(x, "11 a word cut short", x.years(4), 10);
        Due.is("11 the end is where it is cut", x.fault(1), 4);
        Due.is(x, "10 nothing", x.parish(0), 0);
        Due.is(x, "10 nothing at all", x.many(7), 5);
        StringBuilder wide = new StringBuilder("stop;");
        while (wide.length() < 300) {
            wide.append('\n');
        }
        Due.is(x, "11 300 bytes", Due.years(x, wide.toString()), 1);
    }

    private static void taken() {
        DitchSaint x = Due.with("right east here worth 5in0 11;ask a;\n\nask\nb;clause not a b not b;clause a a a;witness 0 16;", "stop;");
        Due.is(x, "10 months", x.right(0, 4), 2049);
        Due.is(x, "10 so", x.clause(0, 0), 2);
        Due.is(x, "10 not so", x.clause(0, 1), 3);
        Due.is(x, "10 thrice", x.clause(1, 0), 1);
        x.month(3);
        x.swear(0, 1, 1);
        x.month(1);
        x.rule(6, 0);
        x.carry(1, 1);
        x.mark();
        Due.is(x, "10 two rights", Due.parish(x, "right west away worth 50 in;right west late 6 worth 1 in 3;chest west 0009;lies west;"), 2);
        int[] due = {2, 0, 0, 0, 0, 8, 2, 5, 1, 0, 0, 0};
        for (int i = 0; i < due.length; i++) {
            Due.is(x, "10 anew " + i, x.many(i), due[i]);
        }
        Due.is(x, "10 chest", x.chest(1), 9);
        Due.is(x, "10 no months", x.right(0, 4), 0);
        for (int i = 0; i <= 6; i++) {
            Due.is(x, "10 has lain ever", x.layAgo(i), 1);
        }
        Due.not(x, "10 no years", x.live(1), 8);
        Due.years(x, "stop;stop;");
        Due.not(x, "10 a fault", Due.parish(x, "odds 1;odds 1;"), 10);
        Due.is(x, "10 the old one stays", x.many(0), 2);
        Due.is(x, "10 the old odds", x.many(5), 8);
        Due.is(x, "10 the years stay", x.live(1), 1);
        Due.not(x, "11 a fault", Due.years(x, "month 1;end;"), 10);
        Due.is(x, "11 the old ones stay", x.live(1), 1);
        Due.is(x, "10 marks stay", x.back(), 0);
        Due.is(x, "10 marked", x.many(2), 2);
        Due.is(x, "11 steps, no ends", Due.years(x, "loop 1;when owes east;any;end;end;pay 0;"), 4);
        Due.is(x, "11 none", x.years(0), 0);
    }

    private static void parishFaults() {
        Faulty.parish("!", 1, 0);
        Faulty.parish("odds 1; A", 1, 8);
        Faulty.parish("odds 1;\t", 1, 7);
        Faulty.parish("odds\u00e9", 1, 4);
        Faulty.parish("odds 12345;", 1, 5);
        Faulty.parish("odds 00000;", 1, 5);
        Faulty.parish("12345", 1, 0);
        Faulty.parish("ask a;clause a,", 1, 14);
        Faulty.parish("go;", 2, 0);
        Faulty.parish(";", 2, 0);
        Faulty.parish("odds", 2, 4);
        Faulty.parish("odds  \n", 2, 7);
        Faulty.parish("odds 1", 2, 6);
        Faulty.parish("odds ;", 2, 5);
        Faulty.parish("odds x;", 2, 5);
        Faulty.parish("odds 1 1;", 2, 7);
        Faulty.parish("month 1;", 2, 0);
        Faulty.parish("worth;", 2, 0);
        Faulty.parish("lies here;", 2, 5);
        Faulty.parish("lies;", 2, 4);
        Faulty.parish("right;", 2, 5);
        Faulty.parish("right east;", 2, 10);
        Faulty.parish("debt;", 2, 4);
        Faulty.parish("debt east;", 2, 9);
        Faulty.parish("chest;", 2, 5);
        Faulty.parish("chest 1;", 2, 6);
        Faulty.parish("chest east west;", 2, 11);
        Faulty.parish("right here east;", 2, 6);
        Faulty.parish("right east soon;", 2, 11);
        Faulty.parish("right east late worth 1;", 2, 16);
        Faulty.parish("right east here 5;", 2, 16);
        Faulty.parish("right east here 2 worth 5 in 1;", 2, 16);
        Faulty.parish("right east here worth in;", 2, 22);
        Faulty.parish("right east here worth 5;", 2, 23);
        Faulty.parish("right east here worth 5 in 1 east;", 2, 29);
        Faulty.parish("right east here worth 5 in 1 2", 2, 30);
        Faulty.parish("debt east 5 left 1;", 2, 10);
        Faulty.parish("debt east sum 5 1;", 2, 16);
        Faulty.parish("ask ;", 2, 4);
        Faulty.parish("ask 1;", 2, 4);
        Faulty.parish("ask abcdefghi;", 2, 4);
        String words = "odds toll war lies chest right worth in debt sum left ask clause not witness east west here away late"
                + " month carry swear pay any when owes loop end stop";
        for (String word : words.split(" ")) {
            Faulty.parish("ask " + word + ";", 2, 4);
            Faulty.parish("ask a;clause a a a " + word + ";", word.equals("not") ? 5 : 2, 19);
        }
        Faulty.parish("ask a b;", 2, 6);
        Faulty.parish("ask a;clause;", 2, 12);
        Faulty.parish("ask a;clause not;", 2, 16);
        Faulty.parish("ask a;clause not not a;", 2, 17);
        Faulty.parish("ask a;clause a 5;", 2, 15);
        Faulty.parish("ask a;clause a a a 5;", 2, 19);
        Faulty.parish("ask a;clause a a a abcdefghi;", 2, 19);
        Faulty.parish("ask a;clause a", 2, 14);
        Faulty.parish("witness 1;", 2, 9);
        Faulty.parish("witness < 1;", 2, 8);
        Faulty.parish("ask a;ask b;ask a;", 3, 16);
        Faulty.parish("clause a;", 3, 7);
        Faulty.parish("clause not a;ask a;", 3, 11);
        Faulty.parish("ask ab;clause abc;", 3, 14);
        Faulty.parish("ask ab;clause a;", 3, 14);
        Faulty.parish("ask a;clause a a a b;", 3, 19);
        Faulty.parish("odds 17;", 4, 5);
        Faulty.parish("toll 100;", 4, 5);
        Faulty.parish("war 100;", 4, 4);
        Faulty.parish("chest east 1000;", 4, 11);
        Faulty.parish("right east late 0 worth 1 in;", 4, 16);
        Faulty.parish("right east late 7 worth 1 in;", 4, 16);
        Faulty.parish("right east here worth 0 in;", 4, 22);
        Faulty.parish("right east here worth 51 in;", 4, 22);
        Faulty.parish("right east here worth 5 in 12;", 4, 27);
        Faulty.parish("right east here worth 5 in 0 1 2 3 4 5 6 7 8 9 10 11 12;", 4, 53);
        Faulty.parish("debt east sum 0 left 1;", 4, 14);
        Faulty.parish("debt east sum 100 left 1;", 4, 14);
        Faulty.parish("debt east sum 1 left 0;", 4, 21);
        Faulty.parish("debt east sum 1 left 25;", 4, 21);
        Faulty.parish("witness 17 1;", 4, 8);
        Faulty.parish("witness 1 17;", 4, 10);
        Faulty.parish("odds 1;odds 1;", 5, 7);
        Faulty.parish("toll 1;toll 99999;", 5, 7);
        Faulty.parish("war 1;toll 1;war 1;", 5, 13);
        Faulty.parish("lies east;lies east;", 5, 10);
        Faulty.parish("chest east 1;chest west 1;chest east 2;", 5, 32);
        Faulty.parish("chest west 1;chest west 1;", 5, 19);
        Faulty.parish("right east here worth 5 in 1 2 1;", 5, 31);
        Faulty.parish("right east here worth 5 in 0 1 2 3 4 5 6 7 8 9 10 11 0;", 5, 53);
        Faulty.parish("ask a;clause a a a a;", 5, 19);
        Faulty.parish("ask a;clause a a a not b;", 5, 19);
        Faulty.parish("ask a;clause not a not a not a not;", 5, 31);
        DitchSaint x = Due.with("odds 16;toll 99;war 99;lies east;chest east 999;chest west 0;right west late 6 worth 50 in 11;"
                + "right west late 1 worth 1 in 0;debt west sum 99 left 24;debt west sum 1 left 1;ask abcdefgh;ask zz;"
                + "ask oddsx;ask od;witness 16 0;");
        Due.is(x, "10 edges", x.many(2), 4);
        Due.is(x, "10 odds", x.many(5), 16);
        Due.is(x, "10 toll", x.many(6), 99);
        Due.is(x, "10 war", x.many(7), 99);
    }

    private static void tooMany() {
        String[] part = {"right east here worth 1 in;", "debt east sum 1 left 1;", "ask ?;", "ask a;clause a;", "witness 1 1;"};
        int[] most = {8, 5, 6, 8, 6};
        for (int k = 0; k < part.length; k++) {
            StringBuilder text = new StringBuilder();
            for (int i = 0; i < most[k]; i++) {
                String next = part[k].replace('?', (char) ('a' + i));
                text.append(k == 3 && i > 0 ? "clause a;" : next);
            }
            DitchSaint x = Due.with(text.toString());
            Due.is(x, "10 as many as may be", x.many(k), most[k]);
            String word = k == 3 ? "clause" : part[k].substring(0, part[k].indexOf(' '));
            Faulty.parish(text + " " + word, 6, text.length() + 1);
            Faulty.parish(text + word + " 12345", 6, text.length());
        }
    }

    private static void yearsFaults() {
        Faulty.years("stop ! ;", 1, 5);
        Faulty.years("loop 12345;", 1, 5);
        Faulty.years("when chest east > 10000;end;", 1, 18);
        Faulty.years("odds 1;", 2, 0);
        Faulty.years("end;", 2, 0);
        Faulty.years("owes east;", 2, 0);
        Faulty.years("stop;end;", 2, 5);
        Faulty.years("loop 1;end;end;", 2, 11);
        Faulty.years("loop 1;", 2, 7);
        Faulty.years("loop 1;  ", 2, 9);
        Faulty.years("loop 1;when owes east;end;", 2, 26);
        Faulty.years("loop 1;end", 2, 10);
        Faulty.years("loop;", 2, 4);
        Faulty.years("month;", 2, 5);
        Faulty.years("month east;", 2, 6);
        Faulty.years("carry 1;", 2, 7);
        Faulty.years("swear 1 1 1;", 2, 6);
        Faulty.years("swear east 1;", 2, 12);
        Faulty.years("pay;", 2, 3);
        Faulty.years("any 1;", 2, 4);
        Faulty.years("stop 1;", 2, 5);
        Faulty.years("stop", 2, 4);
        Faulty.years("when;", 2, 4);
        Faulty.years("when go;", 2, 5);
        Faulty.years("when lies 1;end;", 2, 10);
        Faulty.years("when owes;end;", 2, 9);
        Faulty.years("when chest > 5;end;", 2, 11);
        Faulty.years("when chest east 5;end;", 2, 16);
        Faulty.years("when chest east > ;end;", 2, 18);
        Faulty.years("when chest east >> 1;end;", 2, 17);
        Faulty.years("when lies east stop;end;", 2, 15);
        Faulty.years("month 0;", 4, 6);
        Faulty.years("month 25;", 4, 6);
        Faulty.years("carry 0 1;", 4, 6);
        Faulty.years("carry 21 1;", 4, 6);
        Faulty.years("carry 1 0;", 4, 8);
        Faulty.years("carry 1 21;", 4, 8);
        Faulty.years("swear east 0 1;", 4, 11);
        Faulty.years("swear east 100 1;", 4, 11);
        Faulty.years("swear east 1 0;", 4, 13);
        Faulty.years("swear east 1 25;", 4, 13);
        Faulty.years("pay 5;", 4, 4);
        Faulty.years("loop 0;", 4, 5);
        Faulty.years("loop 100;", 4, 5);
        Faulty.years("loop 1;loop 1;loop 1;loop 1;", 7, 21);
        Faulty.years("loop 1;when owes east;loop 1;when 12345;", 7, 29);
        StringBuilder text = new StringBuilder("loop 2;when lies east;loop 3;");
        for (int i = 3; i < 30; i++) {
            text.append("any;");
        }
        Faulty.years(text + "any;", 6, text.length());
        Faulty.years(text + "when", 6, text.length());
        Faulty.years(text + "go", 2, text.length());
        DitchSaint x = new DitchSaint();
        Due.is(x, "11 30 steps", Due.years(x, text + "end;end;end;"), 30);
        Due.is(x, "11 side by side", Due.years(x, "loop 1;loop 1;loop 1;end;loop 9;end;end;end;loop 99;end;"), 5);
        Due.is(x, "11 edges", Due.years(x, "month 24;month 1;carry 20 20;swear west 99 24;pay 4;pay 0;when chest west=9999;end;"
                + "when chest west<0;end;"), 8);
    }

    private static void told() {
        DitchSaint x = new DitchSaint();
        Due.is("12 ahead of any", x.fault(0), -1);
        Due.is("12 ahead of any", x.fault(1), -1);
        x.parish(1);
        Due.is("12 5 does not count", x.fault(0), -1);
        Due.parish(x, "odds 17;");
        Due.is("12 kind", x.fault(0), 4);
        Due.is("12 place", x.fault(1), 5);
        Due.is("12 others", x.fault(2), -1);
        Due.is("12 others", x.fault(-1), -1);
        x.years(5);
        Due.is("12 5 does not count", x.fault(0), 4);
        Due.years(x, "stop;");
        Due.is("12 without one", x.fault(0), 0);
        Due.is("12 without one", x.fault(1), -1);
        Due.years(x, "end;");
        Due.is("12 of years, too", x.fault(0), 2);
        Due.is("12 of years, too", x.fault(1), 0);
    }

    /** Nothing of a text read before, or of months looked ahead, may come into the next one. */
    private static void behindOthers() {
        DitchSaint x = Due.with(Due.PARISH, "loop 3;any;month 1;swear east 1 1;carry 1 1;end;");
        x.chestIn(0, 60);
        x.mean(0, 20);
        Due.is(x, "10 nothing", Due.parish(x, " "), 0);
        Due.yes("10 as new", Look.at(x).equals(Look.at(new DitchSaint())));
        Due.not(x, "10 no years", x.live(0), 8);
        Due.parish(x, Due.PARISH);
        Due.parish(x, Due.PARISH.replace("witness 3 9;", "witness 3 99;"));
        Due.is("10 a fault at the end", x.fault(0), 4);
        Due.is(x, "10 no debts", Due.parish(x, "war 1;"), 0);
        Due.yes("10 as new, but for war", x.rule(7, 5) && Look.at(x).equals(Look.at(new DitchSaint())));
        Due.years(x, "loop 1;loop 1;");
        Due.is(x, "11 none open", Due.years(x, "loop 1;loop 1;loop 1;month 1;end;end;end;"), 4);
        Due.years(x, "month 25;");
        Due.is(x, "11 none wrong", Due.years(x, "any;stop;"), 2);
        Due.years(x, "carry 1 25;");
        Due.is(x, "11 none wrong", Due.years(x, "stop;any;stop;"), 3);
        Due.is(x, "11 these alone", x.live(3), 1);
        Due.is(x, "11 these, not those", Due.years(x, "month 2;"), 1);
        Due.is(x, "11 these alone", x.live(3), 1);
        Due.is(x, "11 these months", x.lived(1), 2);
        Due.is(x, "10 the parish of the first text", x.many(9), 2);
    }
}
