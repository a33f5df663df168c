/** Promises 13 to 20. */
public final class TellTest {
    public static void main(String[] args) {
        DitchSaint x = Due.with(Due.PARISH);
        int[] due = {4, 2, 2, 3, 2, 6, 3, 4, 1, 0, 0, 0};
        for (int i = 0; i < due.length; i++) {
            Due.is(x, "13 many " + i, x.many(i), due[i]);
        }
        Due.not(x, "13 12", x.many(12), 5);
        Due.not(x, "13 -1", x.many(-1), 5);

        Due.is(x, "14 east", x.chest(0), 10);
        Due.is(x, "14 west", x.chest(1), 20);
        Due.not(x, "14 2", x.chest(2), 2);
        Due.not(x, "14 -1", x.chest(-1), 2);

        int[][] rights = {{0, 0, -1, 5, 7}, {1, 0, -1, 4, 60}, {0, 1, -1, 2, 192}, {1, 2, 2, 3, 768}};
        for (int i = 0; i < rights.length; i++) {
            for (int what = 0; what < 5; what++) {
                if (rights[i][what] < 0) {
                    Due.not(x, "15 not late", x.right(i, what), 8);
                } else {
                    Due.is(x, "15 right " + i + " " + what, x.right(i, what), rights[i][what]);
                }
            }
        }
        Due.not(x, "15 4", x.right(4, 9), 2);
        Due.not(x, "15 -1", x.right(-1, 0), 2);
        Due.not(x, "15 what 5", x.right(0, 5), 5);
        Due.not(x, "15 what -1", x.right(3, -1), 5);

        int[][] debts = {{0, 7, 2}, {1, 30, 5}};
        for (int i = 0; i < debts.length; i++) {
            for (int what = 0; what < 3; what++) {
                Due.is(x, "16 debt " + i + " " + what, x.debt(i, what), debts[i][what]);
            }
        }
        Due.not(x, "16 2", x.debt(2, 9), 2);
        Due.not(x, "16 -1", x.debt(-1, 0), 2);
        Due.not(x, "16 what 3", x.debt(1, 3), 5);
        Due.not(x, "16 what -1", x.debt(1, -1), 5);

        x.swear(0, 5, 1);
        Due.is(x, "17 east", x.owes(0), 12);
        Due.is(x, "17 west", x.owes(1), 30);
        Due.not(x, "17 2", x.owes(2), 2);
        Due.not(x, "17 -1", x.owes(-1), 2);

        lay();

        int[][] clauses = {{3, 0}, {0, 1}, {0, 2}};
        for (int i = 0; i < clauses.length; i++) {
            Due.is(x, "19 so", x.clause(i, 0), clauses[i][0]);
            Due.is(x, "19 not so", x.clause(i, 1), clauses[i][1]);
        }
        Due.not(x, "19 3", x.clause(3, 2), 2);
        Due.not(x, "19 -1", x.clause(-1, 0), 2);
        Due.not(x, "19 what 2", x.clause(0, 2), 5);
        Due.not(x, "19 what -1", x.clause(0, -1), 5);

        Due.is(x, "20", x.witness(0, 0), 12);
        Due.is(x, "20", x.witness(0, 1), 4);
        Due.is(x, "20", x.witness(1, 0), 3);
        Due.is(x, "20", x.witness(1, 1), 9);
        Due.not(x, "20 2", x.witness(2, 0), 2);
        Due.not(x, "20 -1", x.witness(-1, 0), 2);
        Due.not(x, "20 side 2", x.witness(0, 2), 2);
        Due.not(x, "20 side -1", x.witness(0, -1), 2);
        Due.end();
    }

    private static void lay() {
        DitchSaint x = Due.with("toll 0;lies west;");
        int[] where = {1, 0, 0, 1, 0, 1, 1, 0, 1};
        for (int i = 0; i < where.length; i++) {
            if (x.many(8) != where[i]) {
                x.carry(2, 2);
            }
            for (int ago = 0; ago <= 6; ago++) {
                Due.is(x, "18 month " + i + " ago " + ago, x.layAgo(ago), i - ago < 0 ? 1 : where[i - ago]);
            }
            x.month(1);
        }
        Due.not(x, "18 7", x.layAgo(7), 5);
        Due.not(x, "18 -1", x.layAgo(-1), 5);
    }
}
