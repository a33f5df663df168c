import java.util.List;

/** Edges of what TOKENS are: bytes, blanks, digits, letters, NAMES. */
public final class TokenEdgeTest {
    private static final List<String> WORDS = List.of(("odds toll war lies chest right worth in debt sum left ask clause not"
            + " witness east west here away late month carry swear pay any when owes loop end stop").split(" "));

    public static void main(String[] args) {
        eachByteFirst();
        eachByteFirstInYears();
        eachByteWhereASemicolonStands();
        eachByteBetweenTokens();
        blanksAre10And32();
        noBlanksNeeded();
        asLongAsTheyGo();
        oneToFourDigits();
        fiveDigitsAreNoToken();
        digitsInYears();
        namesOf1To8Letters();
        nineLettersAreNoName();
        wordsAreNoNames();
        wordsMoreOrLessAreNames();
        namesAreWhole();
        namesOfOneTextAlone();
        Due.end();
    }

    private static boolean isLetter(int sign) {
        return sign >= 'a' && sign <= 'z';
    }

    private static boolean isDigit(int sign) {
        return sign >= '0' && sign <= '9';
    }

    private static boolean isSign(int sign) {
        return sign == ';' || sign == '<' || sign == '>' || sign == '=';
    }

    private static boolean isBlank(int sign) {
        return sign == 10 || sign == 32;
    }

    private static void taken(String text) {
        DitchSaint x = new DitchSaint();
        Due.yes("10 taken: " + text, Due.parish(x, text) >= 0);
        Due.is("10 no fault: " + text, x.fault(0), 0);
    }

    private static void eachByteFirst() {
        for (int sign = 0; sign < 256; sign++) {
            String text = String.valueOf((char) sign);
            if (isBlank(sign)) {
                taken(text);
            } else {
                Faulty.parish(text, isLetter(sign) || isDigit(sign) || isSign(sign) ? 2 : 1, 0);
            }
        }
    }

    private static void eachByteFirstInYears() {
        for (int sign = 0; sign < 256; sign++) {
            String text = "stop;" + (char) sign;
            if (isBlank(sign)) {
                DitchSaint x = new DitchSaint();
                Due.is(x, "11 a blank", Due.years(x, text), 1);
            } else {
                Faulty.years(text, isLetter(sign) || isDigit(sign) || isSign(sign) ? 2 : 1, 5);
            }
        }
    }

    private static void eachByteWhereASemicolonStands() {
        for (int sign = 0; sign < 256; sign++) {
            String text = "odds 8" + (char) sign;
            if (sign == ';') {
                taken(text);
            } else if (isDigit(sign)) {
                Faulty.parish(text, 4, 5);
            } else if (isBlank(sign)) {
                Faulty.parish(text, 2, 7);
            } else {
                Faulty.parish(text, isLetter(sign) || isSign(sign) ? 2 : 1, 6);
            }
        }
    }

    private static void eachByteBetweenTokens() {
        for (int sign = 0; sign < 256; sign++) {
            String text = "war" + (char) sign + "8;";
            if (isBlank(sign) || isDigit(sign)) {
                taken(text);
            } else if (isLetter(sign)) {
                Faulty.parish(text, 2, 0);
            } else {
                Faulty.parish(text, isSign(sign) ? 2 : 1, 3);
            }
        }
    }

    private static void blanksAre10And32() {
        DitchSaint x = Due.with("\n \n\nodds\n\n8\n \n;  \n");
        Due.is(x, "10 blanks", x.many(5), 8);
        for (char sign : new char[] {0, 9, 11, 12, 13, 31, 160}) {
            Faulty.parish("odds 8;" + sign, 1, 7);
        }
    }

    private static void noBlanksNeeded() {
        DitchSaint x = Due.with("odds7;toll3;war4;chest\neast9;right west late2worth3in4 5;debt west sum6left7;witness8 9;");
        int[] due = {1, 1, 0, 0, 1, 7, 3, 4};
        for (int i = 0; i < due.length; i++) {
            Due.is(x, "10 without blanks " + i, x.many(i), due[i]);
        }
        Due.is(x, "10 lag", x.right(0, 2), 2);
        Due.is(x, "10 worth", x.right(0, 3), 3);
        Due.is(x, "10 months", x.right(0, 4), 48);
        DitchSaint y = new DitchSaint();
        Due.is(y, "11 without blanks", Due.years(y, "month7;carry8 8;when chest east<9;pay0;end;loop6;end;"), 5);
    }

    private static void asLongAsTheyGo() {
        Faulty.parish("oddsodds 8;", 2, 0);
        Faulty.parish("lieseast;", 2, 0);
        Faulty.parish("odds 1 2;", 2, 7);
        DitchSaint x = Due.with("odds 12;");
        Due.is(x, "10 not 1, then 2", x.many(5), 12);
        Faulty.parish("ask ab1;", 2, 6);
        Faulty.years("when chest east<=9;end;", 2, 16);
        Faulty.years("when chest east<<9;end;", 2, 16);
        Faulty.years("any;;", 2, 4);
    }

    private static void oneToFourDigits() {
        for (String number : new String[] {"9", "09", "009", "0009"}) {
            DitchSaint x = Due.with("odds " + number + ";");
            Due.is(x, "10 " + number, x.many(5), 9);
        }
        DitchSaint x = Due.with("odds 0000;");
        Due.is(x, "10 0000", x.many(5), 0);
        Faulty.parish("odds 9999;", 4, 5);
        Faulty.parish("9999", 2, 0);
    }

    private static void fiveDigitsAreNoToken() {
        Faulty.parish("odds 00009;", 1, 5);
        Faulty.parish("odds 00000;", 1, 5);
        Faulty.parish("odds 10000;", 1, 5);
        Faulty.parish("odds  123456;", 1, 6);
        Faulty.parish("odds 4294967304;", 1, 5);
        Faulty.parish("10000", 1, 0);
        Faulty.parish("9".repeat(900), 1, 0);
        Faulty.parish("odds 8 10000;", 1, 7);
        Faulty.parish("right east here worth 5 in 1 00002;", 1, 29);
    }

    private static void digitsInYears() {
        Faulty.years("when chest east > 10000;end;", 1, 18);
        Faulty.years("month 00001;", 1, 6);
        Faulty.years("9".repeat(300), 1, 0);
        DitchSaint x = new DitchSaint();
        Due.is(x, "11 four digits", Due.years(x, "month 0001;when chest east<9999;end;"), 2);
    }

    private static void namesOf1To8Letters() {
        for (int size = 1; size <= 8; size++) {
            String name = "z".repeat(size);
            DitchSaint x = Due.with("ask " + name + ";clause not " + name + ";");
            Due.is(x, "10 a name of " + size, x.many(2), 1);
            Due.is(x, "10 told ahead", x.clause(0, 1), 1);
        }
        taken("ask az;ask za;");
    }

    private static void nineLettersAreNoName() {
        Faulty.parish("ask abcdefghi;", 2, 4);
        Faulty.parish("ask abcdefgh;clause abcdefghi;", 2, 20);
        Faulty.parish("ask abcdefgh;clause not abcdefghi;", 2, 24);
        Faulty.parish("ask abcdefgh;ask abcdefghi;", 2, 17);
        Faulty.parish("ask " + "a".repeat(896), 2, 4);
        Faulty.parish("a".repeat(900), 2, 0);
    }

    private static void wordsAreNoNames() {
        Due.is("10 thirty words", WORDS.size(), 30);
        for (String word : WORDS) {
            Faulty.parish("ask " + word + ";", 2, 4);
            Faulty.parish("ask a;clause not " + word + ";", 2, 17);
            Faulty.parish("ask a;clause a " + word, 2, word.equals("not") ? 18 : 15);
        }
    }

    private static void wordsMoreOrLessAreNames() {
        for (String word : WORDS) {
            for (String name : new String[] {word + "s", "a" + word, word.substring(1), word.substring(0, word.length() - 1)}) {
                if (name.length() <= 8 && !WORDS.contains(name)) {
                    taken("ask " + name + ";clause " + name + ";");
                    Faulty.parish(name + ";", 2, 0);
                }
            }
        }
    }

    private static void namesAreWhole() {
        DitchSaint x = Due.with("ask a;ask aa;ask ab;ask ba;ask b;clause aa;clause b;clause ba not ab;");
        Due.is(x, "10 aa", x.clause(0, 0), 2);
        Due.is(x, "10 b", x.clause(1, 0), 16);
        Due.is(x, "10 ba", x.clause(2, 0), 8);
        Due.is(x, "10 not ab", x.clause(2, 1), 4);
        taken("ask abcdefgh;ask abcdefgi;ask bbcdefgh;ask abcdefg;");
        Faulty.parish("ask ab;clause a;", 3, 14);
        Faulty.parish("ask ab;clause abc;", 3, 14);
        Faulty.parish("ask ab;clause ac;", 3, 14);
        Faulty.parish("ask ab;clause bb;", 3, 14);
    }

    private static void namesOfOneTextAlone() {
        DitchSaint x = Due.with("ask a;ask b;");
        Due.not(x, "10 a name of the text ahead", Due.parish(x, "ask a;clause b;"), 10);
        Due.is("10 is no question", x.fault(0), 3);
        Due.is(x, "10 may be told anew", Due.parish(x, "ask b;clause b;"), 0);
        Due.is(x, "10 by its new number", x.clause(0, 0), 1);
    }
}
