import java.util.Random;

/** Promises 51 to 53. */
public final class YearsTest {
    public static void main(String[] args) {
        refused();
        steps();
        missed();
        limits();
        draws();
        means();
        for (int i = 0; i < 3000; i++) {
            atRandom(i);
        }
        Due.end();
    }

    private static void refused() {
        DitchSaint x = new DitchSaint();
        Due.not(x, "51 -1", x.live(-1), 5);
        Due.not(x, "51 10000", x.live(10000), 5);
        Due.not(x, "51 no years", x.live(9999), 8);
        Due.not(x, "52 none", x.lived(0), 8);
        Due.not(x, "52 5 first", x.lived(5), 5);
        Due.not(x, "53 seed", x.mean(-1, 1), 5);
        Due.not(x, "53 seed", x.mean(10000, 1), 5);
        Due.not(x, "53 many 0", x.mean(0, 0), 5);
        Due.not(x, "53 many 21", x.mean(0, 21), 5);
        Due.not(x, "53 the last", x.mean(9990, 11), 5);
        Due.not(x, "53 no years", x.mean(0, 1), 8);
        Due.years(x, "stop;");
        Due.yes(x, "53 the last is 9,999", x.mean(9990, 10));
        Due.not(x, "52 mean is no live", x.lived(0), 8);
        Due.not(x, "51 10000", x.live(10000), 5);
        Due.not(x, "52 nor is 5", x.lived(4), 8);
        Due.is(x, "51 stop", x.live(9999), 1);
        Due.not(x, "52 5", x.lived(5), 5);
        Due.not(x, "52 -1", x.lived(-1), 5);
        Due.is(x, "52", x.lived(4), 0);
        DitchSaint y = new DitchSaint();
        Due.is(y, "11 YEARS of nothing", y.years(0), 0);
        Due.is(y, "51 of nothing", y.live(0), 0);
        Due.is(y, "52 nothing is left", y.lived(4), 0);
    }

    private static void lived(DitchSaint x, int... due) {
        for (int i = 0; i < due.length; i++) {
            Due.is(x, "52 lived " + i, x.lived(i), due[i]);
        }
    }

    private static void steps() {
        DitchSaint x = Due.with(Due.PARISH, "month 3;carry 2 2;swear west 5 9;when lies east;pay 0;end;when lies west;pay 0;end;"
                + "when owes west;stop;end;when chest west<24;month 1;end;when chest west=19;month 2;end;stop;month 9;");
        Due.is(x, "51", x.live(0), 12);
        lived(x, 0, 6, 1, 2, 0);
        Due.is(x, "51 all is as it is then", x.many(9), 6);
        Due.is(x, "51 paid", x.chest(1), 19);
        Due.is(x, "51 paid to", x.chest(0), 12);
        Due.is(x, "51 lies", x.many(8), 0);
        x.month(1);
        Due.is(x, "51 again, from there", x.live(0), 11);
        lived(x, 0, 4, 1, 0, 0);
        Due.not(x, "51 refused", x.live(-1), 5);
        lived(x, 0, 4, 1, 0, 0);
        Due.parish(x, "toll 0;");
        lived(x, 0, 4, 1, 0, 0);
    }

    private static void missed() {
        DitchSaint x = Due.with("toll 5;chest west 4;debt east sum 1 left 9;",
                "carry 1 2;carry 1 1;pay 0;pay 1;pay 4;swear east 1 1;swear east 1 1;swear east 1 1;swear east 1 1;swear east 1 1;");
        Due.is(x, "51 missed are done, too", x.live(0), 10);
        lived(x, 6, 0, 0, 0, 0);
        Due.is(x, "51 five", x.many(1), 5);
        DitchSaint y = Due.with("odds 0;", "month 24;any;");
        for (int i = 0; i < 100; i++) {
            y.month(99);
        }
        y.month(76);
        y.live(0);
        lived(y, 1, 1, 0, 0, 0);
        Due.is(y, "51 as a whole", y.many(9), 9977);
        y.month(21);
        y.live(0);
        lived(y, 1, 1, 0, 0, 0);
        y.live(0);
        lived(y, 2, 0, 0, 0, 0);
        Due.is(y, "51 the last", y.many(9), 9999);
    }

    private static void limits() {
        DitchSaint x = Due.with("toll 0;", "loop 99;carry 1 1;month 1;carry 1 1;end;stop;");
        Due.is(x, "51 299 and stop are left none", x.live(0), 299);
        lived(x, 0, 99, 198, 0, 0);
        DitchSaint y = Due.with("toll 0;", "month 1;loop 99;carry 1 1;month 1;carry 1 1;end;month 1;");
        Due.is(y, "51 300", y.live(0), 300);
        lived(y, 0, 101, 198, 0, 0);
        DitchSaint z = Due.with("", "month 1;month 1;loop 99;month 1;month 1;month 1;end;stop;");
        Due.is(z, "51 cut", z.live(0), 300);
        lived(z, 0, 299, 0, 0, 1);
        DitchSaint w = Due.with("", "loop 99;month 1;month 1;month 1;end;month 1;loop 99;loop 99;end;end;");
        Due.is(w, "51 a loop is left", w.live(0), 300);
        lived(w, 0, 298, 0, 0, 1);
        DitchSaint v = Due.with("", "month 1;loop 99;month 1;month 1;month 1;end;loop 99;end;loop 2;end;");
        Due.is(v, "51 the second loop is left", v.live(0), 300);
        Due.is(v, "52 left", v.lived(4), 1);
        DitchSaint u = Due.with("", "month 1;loop 99;month 1;month 1;month 1;end;loop 99;end;");
        Due.is(u, "51 a loop of nothing", u.live(0), 300);
        lived(u, 0, 298, 0, 0, 0);
        DitchSaint t = Due.with("", "loop 99;loop 99;loop 99;end;end;end;");
        Due.is(t, "51 loops of nothing", t.live(0), 300);
        lived(t, 0, 0, 0, 0, 1);
        Due.years(t, "month 1;");
        t.live(0);
        lived(t, 0, 1, 0, 0, 0);
        DitchSaint r = Due.with("debt west sum 1 left 9;", "when owes east;month 1;end;when owes west;month 2;end;");
        Due.is(r, "51 owes but 1", r.live(0), 3);
        lived(r, 0, 2, 0, 0, 0);
        DitchSaint s = Due.with("", "loop 3;when lies west;month 1;end;loop 2;month 1;end;end;");
        Due.is(s, "51 when, loop count each time", s.live(0), 1 + 3 * (1 + 1 + 2));
        lived(s, 0, 6, 0, 0, 0);
    }

    private static void draws() {
        int s = 77;
        int[] by = {4, 4, 16};
        DitchSaint x = Due.with("toll 0;odds 8;", "any;");
        int carried = 0;
        for (int seed = 0; seed < 150; seed++) {
            s = seed;
            int[] drawn = new int[3];
            for (int i = 0; i < 3; i++) {
                s = (s * 2971 + 10939) % 65536;
                drawn[i] = s / 8 % by[i];
            }
            boolean carries = drawn[2] < 8;
            x.live(seed);
            Due.is(x, "51 month by any", x.lived(1), carries ? 0 : 1);
            Due.is(x, "51 carried by any", x.lived(2), carries && drawn[0] == drawn[1] ? 1 : 0);
            Due.is(x, "51 missed by any", x.lived(0), carries && drawn[0] != drawn[1] ? 1 : 0);
            carried += x.lived(2);
            if (seed % 50 == 49) {
                x = Due.with("toll 0;odds 8;", "any;");
            }
        }
        Due.yes("51 some were carried", carried > 0);
    }

    private static void means() {
        DitchSaint x = Due.with("odds 9;toll 1;chest east 5;chest west 6;right east here worth 3 in 0 1 2 3;right west here worth 2 in 0 1;",
                "loop 5;any;end;");
        long sum = 0;
        for (int i = 0; i < 20; i++) {
            x.mark();
            x.live(40 + i);
            sum += x.chest(0) + x.chest(1);
            x.back();
        }
        long common = java.math.BigInteger.valueOf(sum).gcd(java.math.BigInteger.valueOf(20)).longValue();
        Due.fraction(x, "53", x.mean(40, 20), sum / common, 20 / common);
        Due.is(x, "53 all stays", x.many(9), 0);
        Due.is(x, "53 east", x.chest(0), 5);
        Due.is(x, "53 west", x.chest(1), 6);
        DitchSaint y = Due.with("", "month 1;");
        Due.fraction(y, "53 nothing", y.mean(3, 7), 0, 1);
    }

    private static void atRandom(int round) {
        Random random = new Random(-1 - round);
        int ahead = random.nextInt(10) == 0 ? 9900 : random.nextInt(5);
        int seed = random.nextInt(9997);
        Parson parson = new Parson(new Random(round));
        String parish = parson.parish();
        String years = parson.years(parson.steps, 0);
        if (years.length() > 300) {
            return;
        }
        DitchSaint x = Due.with(parish, years);
        for (int i = ahead; i > 0; i -= 99) {
            x.month(Math.min(99, i));
        }
        int sum = 0;
        for (int i = 2; i >= 0; i--) {
            parson = new Parson(new Random(round));
            parson.years(parson.steps, 0);
            parson.months(ahead);
            parson.lapsed = 0;
            parson.live(seed + i);
            sum += parson.chest[0] + parson.chest[1];
        }
        Due.yes(x, "53 of " + years, x.mean(seed, 3));
        Due.is("53 of " + years, x.top() * 3, sum * x.bottom());
        int before = ahead;
        Due.is(x, "51 of " + years, x.live(seed), parson.done);
        Due.is(x, "52 missed of " + years, x.lived(0), parson.missed);
        Due.is(x, "52 months of " + years, x.lived(1), parson.lay.size() - before);
        Due.is(x, "52 carried of " + years, x.lived(2), parson.carried);
        Due.is(x, "52 lapsed of " + years, x.lived(3), parson.lapsed);
        Due.is(x, "52 left of " + years, x.lived(4), parson.cut ? 1 : 0);
        Due.is(x, "51 east of " + years, x.chest(0), parson.chest[0]);
        Due.is(x, "51 west of " + years, x.chest(1), parson.chest[1]);
        Due.is(x, "51 lies of " + years, x.many(8), parson.lies);
        Due.is(x, "51 debts of " + years, x.many(1), parson.debts.size());
        for (int i = 0; i < parson.debts.size(); i++) {
            for (int what = 0; what < 3; what++) {
                Due.is(x, "51 debt of " + years, x.debt(i, what), parson.debts.get(i)[what]);
            }
        }
        for (int ago = 1; ago <= 6; ago++) {
            int at = parson.lay.size() - ago;
            Due.is(x, "51 lay of " + years, x.layAgo(ago), at < 0 ? parson.textLies : parson.lay.get(at));
        }
    }
}
