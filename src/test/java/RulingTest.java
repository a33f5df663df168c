import java.util.Random;

/** Promises 42 to 46, 49, 50. */
public final class RulingTest {
    public static void main(String[] args) {
        told();
        Random random = new Random(7);
        for (int i = 0; i < 400; i++) {
            atRandom(random);
        }
        odds();
        shares();
        Due.end();
    }

    private static void told() {
        DitchSaint x = Due.with(Due.PARISH);
        Due.is(x, "42 none", x.rulings(), 0);
        Due.not(x, "43 none", x.rulingAt(0), 8);
        Due.is(x, "44", x.strike(), 1);
        Due.is(x, "45 the least", x.strikeSet(), 1);
        Due.not(x, "46 no ruling", x.sure(0), 8);
        Due.not(x, "46 2", x.sure(2), 2);
        Due.not(x, "46 -1", x.sure(-1), 2);
        DitchSaint y = Due.with("ask a;ask b;ask c;clause a b;clause not a;");
        Due.is(y, "42", y.rulings(), 2);
        Due.is(y, "43", y.rulingAt(0), 2);
        Due.is(y, "43", y.rulingAt(1), 6);
        Due.not(y, "43 2", y.rulingAt(2), 8);
        Due.not(y, "43 -1", y.rulingAt(-1), 8);
        Due.is(y, "44 none", y.strike(), 0);
        Due.is(y, "45 none", y.strikeSet(), 0);
        Due.is(y, "46 not", y.sure(0), 0);
        Due.is(y, "46 is", y.sure(1), 1);
        Due.not(y, "46 not sure", y.sure(2), 8);
        DitchSaint z = Due.with("ask a;clause a not a;clause a;clause not a;clause not a;clause a;clause a;");
        Due.is(z, "44 two", z.strike(), 2);
        Due.is(z, "45 two", z.strikeSet(), 4 + 8);
    }

    private static void atRandom(Random random) {
        int n = 1 + random.nextInt(6);
        int many = random.nextInt(9);
        int[][] literals = new int[many][];
        StringBuilder text = new StringBuilder();
        for (int i = 0; i < n; i++) {
            text.append("ask ").append((char) ('p' + i)).append(';');
        }
        for (int i = 0; i < many; i++) {
            literals[i] = new int[1 + random.nextInt(random.nextBoolean() ? 1 : 3)];
            text.append("clause");
            for (int k = 0; k < literals[i].length; k++) {
                int q = random.nextInt(n);
                boolean not = random.nextBoolean();
                literals[i][k] = not ? -1 - q : q;
                text.append(not ? " not " : " ").append((char) ('p' + q));
            }
            text.append(';');
        }
        DitchSaint x = Due.with(text.toString());
        int found = 0;
        int always = -1;
        int never = -1;
        for (int truths = 0; truths < 1 << n; truths++) {
            if (holds(literals, truths, 0)) {
                Due.is(x, "43 of " + text, x.rulingAt(found), truths);
                found++;
                always &= truths;
                never &= ~truths;
            }
        }
        Due.is(x, "42 of " + text, x.rulings(), found);
        Due.not(x, "43 no more of " + text, x.rulingAt(found), 8);
        for (int q = 0; q < n; q++) {
            if (found == 0 || ((always | never) >> q & 1) == 0) {
                Due.not(x, "46 of " + text, x.sure(q), 8);
            } else {
                Due.is(x, "46 of " + text, x.sure(q), always >> q & 1);
            }
        }
        int best = (1 << many) - 1;
        for (int struck = 0; struck < 1 << many; struck++) {
            boolean can = false;
            for (int truths = 0; truths < 1 << n; truths++) {
                can |= holds(literals, truths, struck);
            }
            if (can && Integer.bitCount(struck) < Integer.bitCount(best)) {
                best = struck;
            }
        }
        Due.is(x, "44 of " + text, x.strike(), Integer.bitCount(best));
        Due.is(x, "45 of " + text, x.strikeSet(), best);
    }

    private static boolean holds(int[][] literals, int truths, int struck) {
        for (int i = 0; i < literals.length; i++) {
            boolean one = (struck >> i & 1) == 1;
            for (int literal : literals[i]) {
                one |= literal >= 0 ? (truths >> literal & 1) == 1 : (truths >> (-1 - literal) & 1) == 0;
            }
            if (!one) {
                return false;
            }
        }
        return true;
    }

    private static void odds() {
        DitchSaint x = Due.with("odds 6;witness 12 4;witness 3 9;witness 16 0;witness 0 5;witness 16 16;witness 15 16;");
        Due.fraction(x, "49 0", x.whose(0), 3, 8);
        Due.fraction(x, "49 1", x.whose(1), 9, 14);
        Due.fraction(x, "49 2", x.whose(2), 3, 8);
        Due.fraction(x, "49 3", x.whose(3), 1, 1);
        Due.not(x, "49 can't be", x.whose(4), 8);
        Due.is("49 stays", x.top(), 1);
        Due.not(x, "49 can't be", x.whose(6), 8);
        Due.not(x, "49 7", x.whose(7), 5);
        Due.not(x, "49 -1", x.whose(-1), 5);
        x.rule(5, 16);
        Due.fraction(x, "49 of east", x.whose(1), 1, 1);
        x.rule(5, 0);
        Due.fraction(x, "49 of west", x.whose(1), 0, 1);
        Due.not(x, "49 of west, can't be", x.whose(3), 8);
        DitchSaint y = Due.with("odds 15;witness 15 16;witness 15 16;witness 15 16;witness 15 16;witness 15 16;witness 15 16;");
        Due.fraction(y, "49 large", y.whose(6), 170859375, 170859375 + 16777216);
    }

    private static void shares() {
        DitchSaint x = Due.with("chest east 12;chest west 20;");
        Due.not(x, "50 2", x.share(2), 2);
        Due.not(x, "50 -1", x.share(-1), 2);
        Due.fraction(x, "50 east", x.share(0), 3, 8);
        Due.fraction(x, "50 west", x.share(1), 5, 8);
        DitchSaint y = Due.with("chest west 7;");
        Due.fraction(y, "50 none", y.share(0), 0, 1);
        Due.fraction(y, "50 all", y.share(1), 1, 1);
        DitchSaint z = new DitchSaint();
        Due.not(z, "50 empty", z.share(0), 8);
        Due.not(z, "50 side first", z.share(3), 2);
    }
}
