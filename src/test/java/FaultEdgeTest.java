/** Which FAULT is told: the first along the text, and of one TOKEN the least kind. */
public final class FaultEdgeTest {
    public static void main(String[] args) {
        noTokenAheadOfAll();
        cannotStandAheadOfNumber();
        nameAheadOfFourth();
        numberAheadOfTwice();
        manyAheadOfDeep();
        firstAlongTheText();
        endOfTheText();
        eachPartCutShort();
        eachStepCutShort();
        eachTokenTurnedWrong();
        eachTokenOfAPartLeftOut();
        eachTokenOfAStepLeftOut();
        Due.end();
    }

    private static void noTokenAheadOfAll() {
        Faulty.parish("!", 1, 0);
        Faulty.parish("odds !;", 1, 5);
        Faulty.parish("lies !;", 1, 5);
        Faulty.parish("ask !;", 1, 4);
        Faulty.parish("ask 12345;", 1, 4);
        Faulty.parish("clause !;", 1, 7);
        Faulty.parish("right east 12345;", 1, 11);
        Faulty.parish("right east here worth 5 in 1 !;", 1, 29);
        Faulty.parish("ask a;clause a a a !;", 1, 19);
        Faulty.parish("ask a;clause a a a 12345;", 1, 19);
        Faulty.years("!", 1, 0);
        Faulty.years("loop 1;!", 1, 7);
        Faulty.years("when !", 1, 5);
        Faulty.years("when chest east !", 1, 16);
    }

    private static void cannotStandAheadOfNumber() {
        Faulty.parish("odds 8 99;", 2, 7);
        Faulty.parish("lies 99;", 2, 5);
        Faulty.parish("ask 99;", 2, 4);
        Faulty.parish("witness 1 1 17;", 2, 12);
        Faulty.parish("debt east sum 1 99;", 2, 16);
        Faulty.years("month 1 25;", 2, 8);
        Faulty.years("carry 1 1 99;", 2, 10);
        Faulty.years("swear east 1 1 99;", 2, 15);
        Faulty.years("pay 1 9;", 2, 6);
        Faulty.years("any 9;", 2, 4);
    }

    private static void nameAheadOfFourth() {
        Faulty.parish("ask a;clause a a a b;", 3, 19);
        Faulty.parish("ask a;clause not a a a b;", 3, 23);
    }

    private static void numberAheadOfTwice() {
        Faulty.parish("right east here worth 5 in 1 13;", 4, 29);
        Faulty.parish("right east here worth 5 in 1 33;", 4, 29);
        Faulty.parish("right east here worth 5 in 0 0 12;", 5, 29);
        Faulty.parish("right east here worth 5 in 0 12 0;", 4, 29);
    }

    private static void manyAheadOfDeep() {
        String full = "loop 1;loop 1;loop 1;" + "any;".repeat(27);
        Faulty.years(full + "loop 1;", 6, full.length());
        Faulty.years(full + "when lies east;", 6, full.length());
        String less = "loop 1;loop 1;loop 1;" + "any;".repeat(26);
        Faulty.years(less + "loop 1;", 7, less.length());
        Faulty.years(less + "when lies east;", 7, less.length());
    }

    private static void firstAlongTheText() {
        Faulty.parish("odds 17;!", 4, 5);
        Faulty.parish("odds 8;odds 8;odds 17;", 5, 7);
        Faulty.parish("odds 8;toll 100;odds 8;", 4, 12);
        Faulty.parish("ask a;ask a;go;", 3, 10);
        Faulty.parish("go;odds 17;", 2, 0);
        Faulty.parish("odds 17 !", 4, 5);
        Faulty.parish("witness 17 17;", 4, 8);
        Faulty.parish("debt east sum 0 left 0;", 4, 14);
        Faulty.parish("right east late 0 worth 0 in 12;", 4, 16);
        Faulty.years("month 25;!", 4, 6);
        Faulty.years("carry 0 0;", 4, 6);
        Faulty.years("swear east 0 0;", 4, 11);
        Faulty.years("loop 0;", 4, 5);
        Faulty.years("loop 1;month 25;", 4, 13);
        Faulty.years("end;month 25;", 2, 0);
    }

    private static void endOfTheText() {
        Faulty.parish("odds", 2, 4);
        Faulty.parish("odds   ", 2, 7);
        Faulty.parish("odds\n", 2, 5);
        Faulty.parish("odds 8", 2, 6);
        Faulty.parish("odds 8   \n", 2, 10);
        Faulty.years("stop", 2, 4);
        Faulty.years("stop  ", 2, 6);
        Faulty.years("loop 1;stop;", 2, 12);
        Faulty.years("loop 1;stop; \n", 2, 14);
        Faulty.years("when lies east;loop 1;end;", 2, 26);
    }

    /** Wherever a PART is cut between TOKENS, the end can't stand there. */
    private static void eachPartCutShort() {
        String[] parts = {"odds 8 ;", "toll 8 ;", "war 8 ;", "lies east ;", "chest west 8 ;", "right east here worth 8 in 1 2 ;",
            "right west away worth 8 in ;", "right west late 2 worth 8 in 3 ;", "debt west sum 8 left 3 ;", "ask b ;",
            "clause not a ;", "clause a not a a ;", "witness 8 9 ;"};
        for (String part : parts) {
            cut("ask a;", part, false);
        }
    }

    private static void eachStepCutShort() {
        String[] steps = {"month 8 ;", "carry 8 8 ;", "swear west 8 9 ;", "pay 3 ;", "any ;", "stop ;", "loop 8 ; end ;",
            "when lies east ; end ;", "when owes west ; end ;", "when chest east < 8 ; end ;", "when chest west > 8 ; end ;",
            "when chest west = 8 ; any ; end ;", "loop 2 ; when owes east ; loop 3 ; end ; end ; end ;"};
        for (String step : steps) {
            cut("any;", step, true);
        }
    }

    private static void cut(String ahead, String part, boolean isYears) {
        DitchSaint x = new DitchSaint();
        int got = isYears ? Due.years(x, ahead + part) : Due.parish(x, ahead + part);
        Due.yes("10 11 taken: " + part, got >= 0);
        for (int i = part.indexOf(' '); i > 0; i = part.indexOf(' ', i + 1)) {
            String text = ahead + part.substring(0, i);
            if (isYears) {
                Faulty.years(text, 2, text.length());
                Faulty.years(text + " \n ", 2, text.length() + 3);
            } else {
                Faulty.parish(text, 2, text.length());
                Faulty.parish(text + " \n ", 2, text.length() + 3);
            }
        }
    }

    /** Each TOKEN of a text in turn gives way to some that can't stand there, and to none at all. */
    private static void eachTokenTurnedWrong() {
        String[] parish = {"odds", "8", ";", "lies", "east", ";", "chest", "west", "8", ";", "right", "east", "late", "2", "worth", "8", "in", ";",
            "debt", "west", "sum", "8", "left", "3", ";", "witness", "8", "9", ";"};
        String[] years = {"month", "8", ";", "carry", "8", "8", ";", "swear", "west", "8", "9", ";", "pay", "3", ";", "any", ";",
            "when", "chest", "east", "<", "8", ";", "end", ";", "when", "owes", "west", ";", "end", ";", "loop", "8", ";", "end", ";", "stop", ";"};
        turn(parish, false);
        turn(years, true);
    }

    private static void turn(String[] tokens, boolean isYears) {
        for (int i = 0; i < tokens.length; i++) {
            for (String wrong : new String[] {"not", "away", "abcdefghi", "zz", "#", "12345"}) {
                StringBuilder text = new StringBuilder();
                int place = 0;
                for (int k = 0; k < tokens.length; k++) {
                    place = k == i ? text.length() : place;
                    text.append(k == i ? wrong : tokens[k]).append(' ');
                }
                boolean isToken = !wrong.equals("#") && !wrong.equals("12345");
                boolean isKind = wrong.equals("away") && tokens[i].equals("late");
                // a KIND without a LAG: then it is the NUMBER behind it that can't stand there
                int at = isKind ? place + 5 : place;
                if (isYears) {
                    Faulty.years(text.toString(), isToken ? 2 : 1, at);
                } else {
                    Faulty.parish(text.toString(), isToken ? 2 : 1, at);
                }
            }
        }
    }

    /** Then it is the TOKEN behind it that can't stand there. */
    private static void eachTokenOfAPartLeftOut() {
        Faulty.parish("8;", 2, 0);
        Faulty.parish("odds;", 2, 4);
        Faulty.parish("odds 8 toll 8;", 2, 7);
        Faulty.parish("toll;", 2, 4);
        Faulty.parish("war;", 2, 3);
        Faulty.parish("lies;", 2, 4);
        Faulty.parish("lies east lies;", 2, 10);
        Faulty.parish("chest 8;", 2, 6);
        Faulty.parish("chest west;", 2, 10);
        Faulty.parish("chest west 8 odds 1;", 2, 13);
        Faulty.parish("right here worth 8 in;", 2, 6);
        Faulty.parish("right east worth 8 in;", 2, 11);
        Faulty.parish("right east late worth 8 in;", 2, 16);
        Faulty.parish("right east late 2 8 in;", 2, 18);
        Faulty.parish("right east here 8 in;", 2, 16);
        Faulty.parish("right east here worth in;", 2, 22);
        Faulty.parish("right east here worth 8;", 2, 23);
        Faulty.parish("right east here worth 8 1 2;", 2, 24);
        Faulty.parish("right east here worth 8 in 1 odds 1;", 2, 29);
        Faulty.parish("debt sum 8 left 3;", 2, 5);
        Faulty.parish("debt west 8 left 3;", 2, 10);
        Faulty.parish("debt west sum left 3;", 2, 14);
        Faulty.parish("debt west sum 8 3;", 2, 16);
        Faulty.parish("debt west sum 8 left;", 2, 20);
        Faulty.parish("debt west sum 8 left 3 odds 1;", 2, 23);
        Faulty.parish("ask;", 2, 3);
        Faulty.parish("ask a ask b;", 2, 6);
        Faulty.parish("ask a;clause;", 2, 12);
        Faulty.parish("ask a;clause not;", 2, 16);
        Faulty.parish("ask a;clause a clause a;", 2, 15);
        Faulty.parish("witness;", 2, 7);
        Faulty.parish("witness 8;", 2, 9);
        Faulty.parish("witness 8 9 odds 1;", 2, 12);
    }

    private static void eachTokenOfAStepLeftOut() {
        Faulty.years("month;", 2, 5);
        Faulty.years("month 8 any;", 2, 8);
        Faulty.years("carry;", 2, 5);
        Faulty.years("carry 8;", 2, 7);
        Faulty.years("carry 8 8 any;", 2, 10);
        Faulty.years("swear 8 9;", 2, 6);
        Faulty.years("swear west;", 2, 10);
        Faulty.years("swear west 8;", 2, 12);
        Faulty.years("swear west 8 9 any;", 2, 15);
        Faulty.years("pay;", 2, 3);
        Faulty.years("pay 3 any;", 2, 6);
        Faulty.years("any any;", 2, 4);
        Faulty.years("stop any;", 2, 5);
        Faulty.years("loop;end;", 2, 4);
        Faulty.years("loop end;", 2, 5);
        Faulty.years("loop 8 any;end;", 2, 7);
        Faulty.years("loop 8;end any;", 2, 11);
        Faulty.years("when;end;", 2, 4);
        Faulty.years("when east;end;", 2, 5);
        Faulty.years("when lies;end;", 2, 9);
        Faulty.years("when owes;end;", 2, 9);
        Faulty.years("when lies east any;end;", 2, 15);
        Faulty.years("when chest <8;end;", 2, 11);
        Faulty.years("when chest east 8;end;", 2, 16);
        Faulty.years("when chest east<;end;", 2, 16);
        Faulty.years("when chest east<8 any;end;", 2, 18);
    }
}
