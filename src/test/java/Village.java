import java.util.Random;

/**
 * What the document says of PLANS and games, worked out anew in the plainest way, for PARISHES
 * made at random.
 */
final class Village {
    final int[] side;
    final int[] kind;
    final int[] lag;
    final int[] worth;
    final int[] months;
    final int toll;
    final int war;
    final int lies;

    Village(Random random) {
        int n = random.nextInt(9);
        int[] worths = {3, 10, 50};
        int most = worths[random.nextInt(3)];
        side = new int[n];
        kind = new int[n];
        lag = new int[n];
        worth = new int[n];
        months = new int[n];
        for (int i = 0; i < n; i++) {
            side[i] = random.nextInt(2);
            kind[i] = random.nextInt(3);
            lag[i] = kind[i] == 2 ? 1 + random.nextInt(6) : 0;
            worth[i] = 1 + random.nextInt(most);
            months[i] = random.nextInt(4096) & random.nextInt(4096);
        }
        toll = random.nextInt(random.nextBoolean() ? 5 : 40);
        war = random.nextInt(random.nextBoolean() ? 5 : 40);
        lies = random.nextInt(2);
    }

    String text() {
        StringBuilder text = new StringBuilder();
        text.append("toll ").append(toll).append(";war ").append(war).append(";lies ").append(name(lies)).append(';');
        for (int i = 0; i < side.length; i++) {
            text.append("right ").append(name(side[i])).append(' ');
            text.append(kind[i] == 0 ? "here" : kind[i] == 1 ? "away" : "late " + lag[i]);
            text.append(" worth ").append(worth[i]).append(" in");
            for (int month = 0; month < 12; month++) {
                if ((months[i] >> month & 1) == 1) {
                    text.append(' ').append(month);
                }
            }
            text.append(';');
        }
        return text.toString();
    }

    static String name(int side) {
        return side == 0 ? "east" : "west";
    }

    /** With which SIDE he LIES in each MONTH: 0, 1, or 2 for neither. */
    static int[] row(int plan) {
        int[] row = new int[12];
        for (int month = 0; month < 12; month++) {
            row[month] = 1 - (plan >> month & 1);
        }
        return row;
    }

    int gain(int ofSide, int[] row) {
        int sum = 0;
        for (int month = 0; month < 12; month++) {
            for (int i = 0; i < side.length; i++) {
                if (side[i] == ofSide && (months[i] >> month & 1) == 1) {
                    int here = row[month];
                    int then = row[Math.floorMod(month - lag[i], 12)];
                    boolean bears = kind[i] == 0 ? here == ofSide : kind[i] == 1 ? here != ofSide : then == ofSide;
                    sum += bears ? worth[i] : 0;
                }
            }
        }
        return sum;
    }

    static int changes(int[] row) {
        int count = 0;
        for (int month = 0; month < 12; month++) {
            count += row[month] != row[(month + 11) % 12] ? 1 : 0;
        }
        return count;
    }

    int net(int plan) {
        int[] row = row(plan);
        return gain(0, row) + gain(1, row) - toll * changes(row);
    }

    int netWithout(int plan, int month) {
        int[] row = row(plan);
        int[] neither = row.clone();
        neither[month] = 2;
        row[month] = row[(month + 11) % 12];
        return gain(0, neither) + gain(1, neither) - toll * changes(row);
    }

    boolean isFair(int plan) {
        for (int s = 0; s < 2; s++) {
            if (gain(s, row(4095 - plan)) > gain(s, row(plan))) {
                return false;
            }
        }
        return true;
    }

    boolean isTreaty(int plan) {
        for (int s = 0; s < 2; s++) {
            for (int month = 0; month < 12; month++) {
                int[] row = row(plan);
                int before = gain(s, row);
                row[month] = s;
                if (gain(s, row) - before > war) {
                    return false;
                }
            }
        }
        return true;
    }

    /** MONTHS are -1 if nobody has them. */
    int play(int[] owned, int turns, int who) {
        if (turns == 0) {
            int[] row = owned.clone();
            for (int month = 0; month < 12; month++) {
                row[month] = row[month] < 0 ? lies : row[month];
            }
            return gain(0, row) - gain(1, row);
        }
        int best = play(owned, turns - 1, 1 - who);
        for (int month = 0; month < 12; month++) {
            if (owned[month] < 0) {
                owned[month] = who;
                int value = play(owned, turns - 1, 1 - who);
                owned[month] = -1;
                best = who == 0 ? Math.max(best, value) : Math.min(best, value);
            }
        }
        return best;
    }

    static int[] free() {
        int[] owned = new int[12];
        java.util.Arrays.fill(owned, -1);
        return owned;
    }

    /** 12 for none. */
    int move(int turns) {
        int best = Integer.MIN_VALUE;
        int move = -1;
        for (int month = 0; month <= 12; month++) {
            int[] owned = free();
            if (month < 12) {
                owned[month] = 0;
            }
            int value = play(owned, turns - 1, 1);
            if (value > best) {
                best = value;
                move = month;
            }
        }
        return move;
    }
}
