import java.util.function.IntPredicate;

/** PLANS and games of a Hamlet, each PLAN gone through MONTH by MONTH. */
final class Almanac {
    private final Hamlet of;
    private final int[][] gain = new int[2][4096];
    final int[] net = new int[4096];

    Almanac(Hamlet of) {
        this.of = of;
        for (int plan = 0; plan < 4096; plan++) {
            int[] row = row(plan);
            gain[0][plan] = gain(of, 0, row);
            gain[1][plan] = gain(of, 1, row);
            net[plan] = gain[0][plan] + gain[1][plan] - of.toll * changes(row);
        }
    }

    /** The SIDE with which he LIES in each MONTH. */
    static int[] row(int plan) {
        int[] row = new int[12];
        for (int m = 0; m < 12; m++) {
            row[m] = (plan & 1 << m) != 0 ? 0 : 1;
        }
        return row;
    }

    static int gain(Hamlet of, int side, int[] row) {
        int sum = 0;
        for (int[] right : of.rights) {
            for (int m = 0; right[0] == side && m < 12; m++) {
                int where = row[right[1] == 2 ? (m - right[2] + 12) % 12 : m];
                boolean bears = right[1] == 1 ? where != side : where == side;
                sum += bears && (right[4] & 1 << m) != 0 ? right[3] : 0;
            }
        }
        return sum;
    }

    static int changes(int[] row) {
        int many = row[0] != row[11] ? 1 : 0;
        for (int m = 1; m < 12; m++) {
            many += row[m] != row[m - 1] ? 1 : 0;
        }
        return many;
    }

    /** -1 if there is none. */
    int greatest(IntPredicate which) {
        int best = -1;
        for (int plan = 0; plan < 4096; plan++) {
            if (which.test(plan) && (best == -1 || net[plan] > net[best])) {
                best = plan;
            }
        }
        return best;
    }

    boolean isSo(int plan, int what) {
        if (what == 0) {
            return gain[0][4095 - plan] <= gain[0][plan] && gain[1][4095 - plan] <= gain[1][plan];
        }
        for (int m = 0; m < 12; m++) {
            int east = gain[0][plan | 1 << m] - gain[0][plan];
            int west = gain[1][plan & ~(1 << m)] - gain[1][plan];
            if (east > of.war || west > of.war) {
                return false;
            }
        }
        return true;
    }

    int even() {
        int best = 0;
        for (int plan = 1; plan < 4096; plan++) {
            boolean isMore = Math.min(gain[0][plan], gain[1][plan]) > Math.min(gain[0][best], gain[1][best]);
            best = isMore ? plan : best;
        }
        return best;
    }

    int rent(int month) {
        int most = Integer.MIN_VALUE;
        for (int plan = 0; plan < 4096; plan++) {
            int[] row = row(plan);
            row[month] = row[(month + 11) % 12];
            int cost = of.toll * changes(row);
            row[month] = 2;
            most = Math.max(most, gain(of, 0, row) + gain(of, 1, row) - cost);
        }
        return net[greatest(plan -> true)] - most;
    }

    int play(int east, int west, int turns, boolean isEast) {
        if (turns == 0) {
            int plan = of.lies == 0 ? 4095 - west : east;
            return gain[0][plan] - gain[1][plan];
        }
        int best = play(east, west, turns - 1, !isEast);
        for (int m = 0; m < 12; m++) {
            if (((east | west) & 1 << m) == 0) {
                int value = isEast ? play(east | 1 << m, west, turns - 1, false) : play(east, west | 1 << m, turns - 1, true);
                best = isEast ? Math.max(best, value) : Math.min(best, value);
            }
        }
        return best;
    }

    /** 12 for none. */
    int move(int turns) {
        int best = 0;
        for (int m = 1; m <= 12; m++) {
            int claimed = m == 12 ? 0 : 1 << m;
            if (play(claimed, 0, turns - 1, false) > play(1 << best, 0, turns - 1, false)) {
                best = m;
            }
        }
        return best;
    }
}
