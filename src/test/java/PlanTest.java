import java.util.Random;

/** Promises 33 to 41, and 47, 48: against what Village works out. */
public final class PlanTest {
    public static void main(String[] args) {
        refused();
        told();
        Random random = new Random(5);
        for (int i = 0; i < 60; i++) {
            plans(new Village(random), random);
        }
        for (int i = 0; i < 40; i++) {
            games(new Village(random));
        }
        carriedAway();
        Due.end();
    }

    private static void refused() {
        DitchSaint x = Due.with(Due.PARISH);
        Due.not(x, "33 side", x.gain(2, 4096), 2);
        Due.not(x, "33 4096", x.gain(0, 4096), 5);
        Due.not(x, "33 -1", x.gain(1, -1), 5);
        Due.not(x, "34 4096", x.changes(4096), 5);
        Due.not(x, "34 -1", x.changes(-1), 5);
        Due.not(x, "35 4096", x.net(4096), 5);
        Due.not(x, "35 -1", x.net(-1), 5);
        Due.not(x, "36 13", x.best(13), 5);
        Due.not(x, "36 -1", x.best(-1), 5);
        Due.not(x, "37 4096", x.isSo(4096, 0), 5);
        Due.not(x, "37 -1", x.isSo(-1, 1), 5);
        Due.not(x, "37 what 2", x.isSo(0, 2), 5);
        Due.not(x, "37 what -1", x.isSo(0, -1), 5);
        Due.not(x, "38 2", x.howMany(2), 5);
        Due.not(x, "38 -1", x.howMany(-1), 5);
        Due.not(x, "39 2", x.bestOf(2), 5);
        Due.not(x, "39 -1", x.bestOf(-1), 5);
        Due.not(x, "41 12", x.rent(12), 5);
        Due.not(x, "41 -1", x.rent(-1), 5);
        Due.not(x, "47 5", x.game(5), 5);
        Due.not(x, "47 -1", x.game(-1), 5);
        Due.not(x, "48 0", x.moveOf(0), 5);
        Due.not(x, "48 5", x.moveOf(5), 5);
        Due.not(x, "48 -1", x.moveOf(-1), 5);
    }

    private static void told() {
        DitchSaint x = Due.with(Due.PARISH);
        Due.is(x, "33", x.gain(0, 7), 19);
        Due.is(x, "33", x.gain(1, 7), 18);
        Due.is(x, "34 0 and 11 are neighbours", x.changes(2049), 2);
        Due.is(x, "34", x.changes(0x555), 12);
        Due.is(x, "35", x.net(7), 31);
        Due.is(x, "36", x.best(2), 7);
        Due.is(x, "36 none", x.best(1), 0);
        x.claim(0, 0, 0, 50, 2048);
        Due.is(x, "36 asked at once", x.best(12), 2048 + 7);
        x.claim(0, 0, 0, 49, 1024);
        Due.is(x, "39 asked at once", x.bestOf(1), 3072 + 7);
        DitchSaint one = Due.with("toll 0;right east here worth 1 in 0;right west here worth 1 in 1;");
        Due.is(one, "40 asked at once", one.even(), 1);
        Due.is(one, "36 the first", one.best(2), 1);
        DitchSaint last = Due.with("right east here worth 1 in 0 1 2 3 4 5 6 7 8 9 10 11;right west away worth 1 in 0 1 2 3 4 5 6 7 8 9 10 11;");
        Due.is(last, "40 the last", last.even(), 4095);
        Due.is(last, "36 the last", last.best(0), 4095);
        Due.is(last, "39 the last", last.bestOf(1), 4095);
        DitchSaint y = Due.with("toll 1;");
        Due.is(y, "35 below 0", y.net(1), -2);
        DitchSaint z = Due.with("toll 0;right east away worth 1 in 4;");
        z.claim(1, 1, 0, 2, 16);
        Due.is(z, "41 -1", z.rent(4), -1);
        Due.is(z, "41 0", z.rent(3), 0);
        z.claim(0, 0, 0, 5, 16);
        Due.is(z, "41 above 0", z.rent(4), 4);

        DitchSaint w = Due.with("war 0;right east here worth 1 in 3;right west here worth 1 in 3;");
        Due.is(w, "38 no treaties", w.howMany(1), 0);
        Due.not(w, "39 no treaties", w.bestOf(1), 8);
        Due.is(w, "38 none are fair", w.howMany(0), 0);
        Due.not(w, "39 none are fair", w.bestOf(0), 8);
        w.rule(7, 1);
        Due.is(w, "37 by no more than war", w.isSo(0, 1), 1);
        Due.is(w, "38 all", w.howMany(1), 4096);
        DitchSaint v = Due.with("lies west;right east away worth 1 in 0 1 2 3 4 5 6 7 8 9 10 11;");
        Due.not(v, "48 none is best", v.moveOf(1), 8);
        Due.is(v, "47 none is claimed", v.game(1), 12);
        DitchSaint u = Due.with("right west here worth 1 in 0 1 2 3 4 5;");
        Due.is(u, "48 as good, the first", u.moveOf(1), 0);
        Due.is(u, "47 -1", u.game(2), -1);
        DitchSaint t = Due.with("right west here worth 1 in 4;");
        Due.is(t, "48 the only one", t.moveOf(2), 4);
        Due.is(t, "47 he lies in east", t.game(0), 0);
    }

    private static void plans(Village village, Random random) {
        DitchSaint x = Due.with(village.text());
        int[] nets = new int[4096];
        int[] changes = new int[4096];
        int[] count = new int[2];
        int[] bestOf = {-1, -1};
        int even = 0;
        int evenGain = Integer.MIN_VALUE;
        for (int plan = 0; plan < 4096; plan++) {
            int[] row = Village.row(plan);
            nets[plan] = village.net(plan);
            changes[plan] = Village.changes(row);
            boolean[] is = {village.isFair(plan), village.isTreaty(plan)};
            for (int what = 0; what < 2; what++) {
                if (is[what]) {
                    count[what]++;
                    bestOf[what] = bestOf[what] < 0 || nets[plan] > nets[bestOf[what]] ? plan : bestOf[what];
                }
            }
            int lesser = Math.min(village.gain(0, row), village.gain(1, row));
            even = lesser > evenGain ? plan : even;
            evenGain = Math.max(lesser, evenGain);
            if (random.nextInt(100) == 0) {
                x = Due.with(village.text());
                Due.is(x, "33 east", x.gain(0, plan), village.gain(0, row));
                Due.is(x, "33 west", x.gain(1, plan), village.gain(1, row));
                Due.is(x, "34", x.changes(plan), changes[plan]);
                Due.is(x, "35", x.net(plan), nets[plan]);
                Due.is(x, "37 fair", x.isSo(plan, 0), is[0] ? 1 : 0);
                Due.is(x, "37 treaty", x.isSo(plan, 1), is[1] ? 1 : 0);
            }
        }
        for (int c = 0; c <= 12; c++) {
            Due.is(x, "36 best " + c, x.best(c), best(nets, changes, c));
        }
        for (int what = 0; what < 2; what++) {
            Due.is(x, "38 " + what, x.howMany(what), count[what]);
            if (bestOf[what] < 0) {
                Due.not(x, "39 " + what, x.bestOf(what), 8);
            } else {
                Due.is(x, "39 " + what, x.bestOf(what), bestOf[what]);
            }
        }
        Due.is(x, "40", x.even(), even);
        rents(x, village, nets[best(nets, changes, 12)]);
    }

    private static int best(int[] nets, int[] changes, int c) {
        int best = -1;
        for (int plan = 0; plan < 4096; plan++) {
            if (changes[plan] <= c && (best < 0 || nets[plan] > nets[best])) {
                best = plan;
            }
        }
        return best;
    }

    private static void rents(DitchSaint x, Village village, int greatest) {
        for (int month = 0; month < 12; month++) {
            int without = Integer.MIN_VALUE;
            for (int plan = 0; plan < 4096; plan++) {
                without = Math.max(without, village.netWithout(plan, month));
            }
            Due.is(x, "41 rent " + month, x.rent(month), greatest - without);
        }
    }

    private static void games(Village village) {
        DitchSaint x = Due.with(village.text());
        for (int turns = 0; turns <= 4; turns++) {
            Due.is(x, "47 turns " + turns, x.game(turns), village.play(Village.free(), turns, 0));
            if (turns > 0) {
                int move = village.move(turns);
                if (move == 12) {
                    Due.not(x, "48 turns " + turns, x.moveOf(turns), 8);
                } else {
                    Due.is(x, "48 turns " + turns, x.moveOf(turns), move);
                }
            }
        }
    }

    /** A game looks at where he LIES now, PLANS at nothing of what became. */
    private static void carriedAway() {
        DitchSaint x = Due.with("toll 0;right east here worth 2 in 5;right west here worth 1 in 6;");
        Due.is(x, "47 in east", x.game(0), 2);
        Due.is(x, "33 ahead", x.gain(0, 32), 2);
        x.carry(1, 1);
        x.month(7);
        Due.is(x, "47 in west", x.game(0), -1);
        Due.is(x, "33 behind", x.gain(0, 32), 2);
        x.price(0, 9);
        x.grant(1, 7, true);
        x.rule(6, 1);
        Due.is(x, "33 by the new price", x.gain(0, 32), 9);
        Due.is(x, "33 by the new month", x.gain(1, 32), 2);
        Due.is(x, "35 by the new toll", x.net(32), 9);
    }
}
