import java.util.ArrayList;
import java.util.Arrays;
import java.util.List;
import java.util.Random;

/** Promises 10 to 12: texts made at random, then turned a little wrong, against what Clerk finds. */
public final class TextWildTest {
    private static final String[] PARTS = {"odds 16 ;", "toll 99 ;", "war 0 ;", "lies west ;", "chest east 999 ;", "chest west 0 ;",
        "right east here worth 50 in 0 11 ;", "right west away worth 1 in ;", "right west late 6 worth 9 in 3 4 5 ;", "debt east sum 99 left 24 ;",
        "debt west sum 1 left 1 ;", "ask a ;", "ask b ;", "ask abcdefgh ;", "clause a ;", "clause not a b ;", "clause a a not b ;", "witness 0 16 ;"};
    private static final String[] STEPS = {"month 24 ;", "carry 20 1 ;", "swear west 99 24 ;", "pay 4 ;", "any ;", "stop ;", "loop 99 ;", "loop 1 ;",
        "when lies east ;", "when owes west ;", "when chest west > 9999 ;", "when chest east = 0 ;", "end ;", "end ;", "end ;"};
    private static final String[] POOL = {";", "<", "=", "0", "1", "12", "17", "25", "100", "1000", "9999", "00000", "east", "west", "not", "a", "b", "c",
        "abcdefghi", "here", "late", "worth", "in", "sum", "left", "odds", "chest", "right", "ask", "clause", "witness", "end", "loop", "when", "!", "A"};

    public static void main(String[] args) {
        int[] found = new int[8];
        for (int seed = 0; seed < 20000; seed++) {
            Random random = new Random(seed);
            boolean isYears = seed % 2 == 0;
            String text = text(random, isYears ? STEPS : PARTS);
            if (text.length() <= (isYears ? 300 : 900)) {
                found[asked(text, isYears)]++;
            }
        }
        for (int fault = 0; fault < found.length; fault++) {
            Due.yes("12 some have fault " + fault + ": " + Arrays.toString(found), found[fault] > 50);
        }
        Due.end();
    }

    private static String text(Random random, String[] rows) {
        List<String> tokens = new ArrayList<>();
        // few sorts, and many of each, come to where there is one too many
        int sorts = random.nextInt(3) == 0 ? 2 : rows.length;
        int first = random.nextInt(rows.length);
        int many = random.nextInt(sorts == 2 ? 40 : 12);
        for (int i = 0; i < many; i++) {
            tokens.addAll(List.of(rows[(first + random.nextInt(sorts)) % rows.length].split(" ")));
        }
        for (int i = random.nextInt(3); i > 0 && !tokens.isEmpty(); i--) {
            int at = random.nextInt(tokens.size());
            String other = POOL[random.nextInt(POOL.length)];
            switch (random.nextInt(3)) {
                case 0: tokens.remove(at); break;
                case 1: tokens.add(at, other); break;
                default: tokens.set(at, other);
            }
        }
        StringBuilder text = new StringBuilder();
        for (String token : tokens) {
            boolean mayJoin = text.length() > 0 && random.nextBoolean() && isWord(text.charAt(text.length() - 1)) != isWord(token.charAt(0));
            text.append(mayJoin ? "" : random.nextInt(9) == 0 ? "\n" : " ").append(token);
        }
        return text.toString();
    }

    private static boolean isWord(char sign) {
        return sign >= 'a' && sign <= 'z';
    }

    private static int asked(String text, boolean isYears) {
        Clerk clerk = isYears ? Clerk.ofYears(text) : Clerk.ofParish(text);
        DitchSaint x = new DitchSaint();
        int got = isYears ? Due.years(x, text) : Due.parish(x, text);
        Due.is("12 fault of " + text, x.fault(0), clerk.fault);
        Due.is("12 place of " + text, x.fault(1), clerk.place);
        Due.is("10 11 status of " + text, x.status(), clerk.fault == 0 ? 0 : 10);
        if (isYears && clerk.fault == 0) {
            Due.is("11 steps of " + text, got, clerk.steps);
        }
        return clerk.fault;
    }
}
