/** Edges of what is told, promises 13 to 20: numbers that there are not, below the first and behind the last. */
public final class TellEdgeTest {
    private static final int[] NO_SIDES = {Integer.MIN_VALUE, -1, 2, Integer.MAX_VALUE};

    public static void main(String[] args) {
        whatOfMany();
        noSuchSide();
        rights();
        whatOfARight();
        lagOfLateAlone();
        debts();
        whatOfADebt();
        owesNothing();
        owesMost();
        monthsAgo();
        clauses();
        whatOfAClause();
        witnesses();
        fullParish();
        Due.end();
    }

    private static void whatOfMany() {
        for (int what : new int[] {Integer.MIN_VALUE, -1, 12, Integer.MAX_VALUE}) {
            Refused.with(5, "13 what " + what, x -> x.many(what));
        }
        int[] due = {5, 4, 2, 3, 2, 6, 3, 4};
        DitchSaint x = Refused.busy();
        for (int what = 0; what < due.length; what++) {
            Due.is(x, "13 what " + what, x.many(what), due[what]);
        }
    }

    private static void noSuchSide() {
        for (int side : NO_SIDES) {
            Refused.with(2, "14 side " + side, x -> x.chest(side));
            Refused.with(2, "17 side " + side, x -> x.owes(side));
            Refused.with(2, "20 side " + side, x -> x.witness(0, side));
            Refused.with(2, "24 side " + side, x -> x.swear(side, 1, 1));
            Refused.with(2, "28 side " + side, x -> x.claim(side, 0, 0, 1, 0));
            Refused.with(2, "30 side " + side, x -> x.chestIn(side, 0));
            Refused.with(2, "33 side " + side, x -> x.gain(side, 0));
            Refused.with(2, "50 side " + side, x -> x.share(side));
        }
        DitchSaint x = Due.with("chest east 3;chest west 4;");
        Due.is(x, "14 east", x.chest(0), 3);
        Due.is(x, "14 west", x.chest(1), 4);
    }

    /** A busy one has five RIGHTS. */
    private static void rights() {
        for (int right : new int[] {Integer.MIN_VALUE, -1, 5, 8, Integer.MAX_VALUE}) {
            Refused.with(2, "15 right " + right, x -> x.right(right, 0));
            Refused.with(2, "15 right " + right + " ahead of what", x -> x.right(right, 5));
            Refused.with(2, "26 right " + right, x -> x.price(right, 1));
            Refused.with(2, "26 right " + right + " ahead of its worth", x -> x.price(right, 0));
            Refused.with(2, "27 right " + right, x -> x.grant(right, 0, true));
            Refused.with(2, "27 right " + right + " ahead of its month", x -> x.grant(right, 12, false));
        }
        Refused.with(2, "15 none at first", DitchSaint::new, x -> x.right(0, 0));
        DitchSaint x = Refused.busy();
        Due.is(x, "15 the first", x.right(0, 3), 5);
        Due.is(x, "15 the last", x.right(4, 3), 4);
    }

    private static void whatOfARight() {
        for (int what : new int[] {Integer.MIN_VALUE, -1, 5, Integer.MAX_VALUE}) {
            Refused.with(5, "15 what " + what, x -> x.right(0, what));
            Refused.with(5, "15 what " + what + " of a late one", x -> x.right(4, what));
        }
        int[] due = {1, 2, 3, 4, 5};
        DitchSaint x = Refused.busy();
        for (int what = 0; what < 5; what++) {
            Due.is(x, "15 what " + what, x.right(4, what), due[what]);
        }
    }

    private static void lagOfLateAlone() {
        Refused.with(8, "15 here has no lag", x -> x.right(0, 2));
        Refused.with(8, "15 away has no lag", x -> x.right(2, 2));
        DitchSaint x = Due.with("right east late 1 worth 1 in;right west late 6 worth 1 in;");
        Due.is(x, "15 the least lag", x.right(0, 2), 1);
        Due.is(x, "15 the most lag", x.right(1, 2), 6);
    }

    /** A busy one has four DEBTS. */
    private static void debts() {
        for (int debt : new int[] {Integer.MIN_VALUE, -1, 4, 5, Integer.MAX_VALUE}) {
            Refused.with(2, "16 debt " + debt, x -> x.debt(debt, 0));
            Refused.with(2, "16 debt " + debt + " ahead of what", x -> x.debt(debt, 3));
            Refused.with(2, "25 debt " + debt, x -> x.pay(debt));
        }
        Refused.with(2, "16 none at first", DitchSaint::new, x -> x.debt(0, 0));
        Refused.with(2, "25 none at first", DitchSaint::new, x -> x.pay(0));
        DitchSaint x = Refused.busy();
        Due.is(x, "16 the first", x.debt(0, 1), 2);
        Due.is(x, "16 the last", x.debt(3, 1), 99);
    }

    private static void whatOfADebt() {
        for (int what : new int[] {Integer.MIN_VALUE, -1, 3, Integer.MAX_VALUE}) {
            Refused.with(5, "16 what " + what, x -> x.debt(0, what));
        }
        DitchSaint x = Refused.busy();
        Due.is(x, "16 side", x.debt(3, 0), 1);
        Due.is(x, "16 sum", x.debt(3, 1), 99);
        Due.is(x, "16 left", x.debt(3, 2), 24);
    }

    private static void owesNothing() {
        DitchSaint x = new DitchSaint();
        Due.is(x, "17 none", x.owes(0), 0);
        x.swear(1, 1, 1);
        Due.is(x, "17 those of the other", x.owes(0), 0);
        Due.is(x, "17 its own", x.owes(1), 1);
        x.month(1);
        Due.is(x, "17 lapsed", x.owes(1), 0);
    }

    private static void owesMost() {
        DitchSaint x = new DitchSaint();
        for (int i = 0; i < 5; i++) {
            x.swear(0, 99, 24);
        }
        Due.is(x, "17 all five", x.owes(0), 495);
        Due.is(x, "17 all five of one", x.owes(1), 0);
    }

    private static void monthsAgo() {
        for (int months : new int[] {Integer.MIN_VALUE, -1, 7, Integer.MAX_VALUE}) {
            Refused.with(5, "18 months " + months, x -> x.layAgo(months));
        }
        for (int lain = 0; lain <= 8; lain++) {
            DitchSaint x = Due.with("toll 0;lies west;");
            x.carry(1, 1);
            for (int i = 0; i < lain; i++) {
                x.month(1);
            }
            Due.is(x, "18 now", x.layAgo(0), 0);
            for (int ago = 1; ago <= 6; ago++) {
                Due.is(x, "18 " + ago + " ago, in month " + lain, x.layAgo(ago), ago <= lain ? 0 : 1);
            }
        }
        DitchSaint x = Due.with("toll 0;");
        x.carry(1, 1);
        x.carry(1, 1);
        x.carry(1, 1);
        Due.is(x, "18 0 ago is now", x.layAgo(0), 1);
        Due.is(x, "18 no month went by", x.layAgo(1), 0);
    }

    /** A busy one has three CLAUSES. */
    private static void clauses() {
        for (int clause : new int[] {Integer.MIN_VALUE, -1, 3, 8, Integer.MAX_VALUE}) {
            Refused.with(2, "19 clause " + clause, x -> x.clause(clause, 0));
            Refused.with(2, "19 clause " + clause + " ahead of what", x -> x.clause(clause, 2));
        }
        Refused.with(2, "19 none at first", DitchSaint::new, x -> x.clause(0, 0));
        DitchSaint x = Refused.busy();
        Due.is(x, "19 the first", x.clause(0, 0), 3);
        Due.is(x, "19 the last", x.clause(2, 1), 2);
    }

    private static void whatOfAClause() {
        for (int what : new int[] {Integer.MIN_VALUE, -1, 2, Integer.MAX_VALUE}) {
            Refused.with(5, "19 what " + what, x -> x.clause(0, what));
        }
    }

    /** A busy one has two WITNESSES. */
    private static void witnesses() {
        for (int witness : new int[] {Integer.MIN_VALUE, -1, 2, 6, Integer.MAX_VALUE}) {
            Refused.with(2, "20 witness " + witness, x -> x.witness(witness, 0));
            Refused.with(2, "20 witness " + witness + " and side", x -> x.witness(witness, 2));
        }
        Refused.with(2, "20 none at first", DitchSaint::new, x -> x.witness(0, 0));
        DitchSaint x = Refused.busy();
        Due.is(x, "20 the first", x.witness(0, 0), 12);
        Due.is(x, "20 the last", x.witness(1, 1), 9);
    }

    /** As much as a text can have: the last of each is told, one behind it is not. */
    private static void fullParish() {
        StringBuilder text = new StringBuilder();
        for (int i = 0; i < 8; i++) {
            text.append("right east here worth ").append(i + 1).append(" in 5;");
        }
        for (int i = 0; i < 5; i++) {
            text.append("debt west sum ").append(i + 1).append(" left 9;");
        }
        for (int i = 0; i < 6; i++) {
            text.append("ask ").append((char) ('a' + i)).append(";witness ").append(i).append(" 7;");
        }
        DitchSaint x = Due.with(text + "clause f;".repeat(7) + "clause not f;");
        Due.is(x, "15 the eighth", x.right(7, 3), 8);
        Due.not(x, "15 a ninth", x.right(8, 3), 2);
        Due.is(x, "16 the fifth", x.debt(4, 1), 5);
        Due.not(x, "16 a sixth", x.debt(5, 1), 2);
        Due.is(x, "19 the eighth", x.clause(7, 1), 32);
        Due.is(x, "19 the seventh", x.clause(6, 0), 32);
        Due.not(x, "19 a ninth", x.clause(8, 1), 2);
        Due.is(x, "20 the sixth", x.witness(5, 0), 5);
        Due.not(x, "20 a seventh", x.witness(6, 0), 2);
        Due.not(x, "46 the sixth question", x.sure(5), 8);
        Due.not(x, "46 a seventh question", x.sure(6), 2);
        Due.is(x, "32 all eight", x.bears(), 0);
        x.month(5);
        Due.is(x, "32 all eight", x.bears(), 255);
    }
}
