/** Edges of what changes RIGHTS and the rest, promises 26 to 29. */
public final class RightEdgeTest {
    private static final int[] FAR = {Integer.MIN_VALUE, Integer.MAX_VALUE};

    public static void main(String[] args) {
        worthIs1To50();
        priceOfOneAlone();
        priceFromNowOn();
        grantsOfMonths0To11();
        grantOfWhatIsSo();
        grantToAndFro();
        claimOfKinds();
        claimOfLags();
        claimOfWorths();
        claimOfMonths();
        claimOfNumbersFirst();
        atMostEightRights();
        claimedOneBears();
        ruleOfWhat();
        ruleOfOdds();
        ruleOfTollAndWar();
        Due.end();
    }

    private static void worthIs1To50() {
        for (int worth : new int[] {FAR[0], -1, 0, 51, FAR[1]}) {
            Refused.with(5, "26 worth " + worth, x -> x.price(0, worth));
            Refused.with(5, "26 worth " + worth + " of the last", x -> x.price(4, worth));
        }
        DitchSaint x = Due.with("right east here worth 7 in;");
        int was = 7;
        for (int worth : new int[] {1, 50, 49, 2, 2}) {
            Due.is(x, "26 what it was", x.price(0, worth), was);
            Due.is(x, "26 worth " + worth, x.right(0, 3), worth);
            was = worth;
        }
    }

    private static void priceOfOneAlone() {
        for (int right = 0; right < 8; right++) {
            DitchSaint x = Due.with("right west away worth 9 in 5;".repeat(8));
            Due.is(x, "26 what it was", x.price(right, 3), 9);
            for (int i = 0; i < 8; i++) {
                Due.is(x, "26 of that one alone", x.right(i, 3), i == right ? 3 : 9);
            }
        }
    }

    private static void priceFromNowOn() {
        DitchSaint x = Due.with("right east here worth 7 in 0 1;");
        x.month(1);
        x.price(0, 50);
        Due.is(x, "26 from now on", x.month(1), 57);
    }

    private static void grantsOfMonths0To11() {
        for (int month : new int[] {FAR[0], -1, 12, 32, FAR[1]}) {
            Refused.with(5, "27 month " + month + " is", x -> x.grant(0, month, true));
            Refused.with(5, "27 month " + month + " is not", x -> x.grant(0, month, false));
        }
        for (int month = 0; month <= 11; month++) {
            DitchSaint x = Due.with("right east here worth 1 in;right east here worth 1 in;");
            Due.yes(x, "27 month " + month, x.grant(1, month, true));
            Due.is(x, "27 month " + month, x.right(1, 4), 1 << month);
            Due.is(x, "27 of that one alone", x.right(0, 4), 0);
        }
    }

    /** RIGHT 0 of a busy one is of the MONTHS 0, 1, 2. */
    private static void grantOfWhatIsSo() {
        for (int month = 0; month <= 11; month++) {
            int of = month;
            Refused.with(9, "27 it is so: " + month, x -> x.grant(0, of, of <= 2));
        }
    }

    private static void grantToAndFro() {
        DitchSaint x = Due.with("right east here worth 1 in 0 1 2 3 4 5 6 7 8 9 10 11;");
        for (int month = 0; month <= 11; month++) {
            Due.yes(x, "27 no more", x.grant(0, month, false));
            Due.is(x, "27 without " + month, x.right(0, 4), 4095 ^ 1 << month);
            Due.not(x, "27 it is so", x.grant(0, month, false), 9);
            Due.yes(x, "27 again", x.grant(0, month, true));
            Due.is(x, "27 all", x.right(0, 4), 4095);
        }
        Due.is(x, "32 bears", x.bears(), 1);
        x.grant(0, 0, false);
        Due.is(x, "32 bears no more", x.bears(), 0);
    }

    private static void claimOfKinds() {
        for (int kind : new int[] {FAR[0], -1, 3, FAR[1]}) {
            Refused.with(5, "28 kind " + kind, x -> x.claim(0, kind, 0, 1, 0));
            Refused.with(5, "28 kind " + kind + " with a lag", x -> x.claim(0, kind, 1, 1, 0));
        }
        DitchSaint x = new DitchSaint();
        for (int kind = 0; kind <= 2; kind++) {
            Due.is(x, "28 its number", x.claim(kind % 2, kind, kind == 2 ? 5 : 0, 1, 0), kind);
            Due.is(x, "28 side", x.right(kind, 0), kind % 2);
            Due.is(x, "28 kind", x.right(kind, 1), kind);
        }
    }

    private static void claimOfLags() {
        for (int lag : new int[] {FAR[0], -1, 0, 7, FAR[1]}) {
            Refused.with(5, "28 late by " + lag, x -> x.claim(0, 2, lag, 1, 0));
        }
        for (int lag : new int[] {FAR[0], -1, 1, 6, FAR[1]}) {
            Refused.with(5, "28 here by " + lag, x -> x.claim(0, 0, lag, 1, 0));
            Refused.with(5, "28 away by " + lag, x -> x.claim(0, 1, lag, 1, 0));
        }
        DitchSaint x = new DitchSaint();
        for (int lag = 1; lag <= 6; lag++) {
            Due.is(x, "28 late by " + lag, x.claim(0, 2, lag, 1, 0), lag - 1);
            Due.is(x, "28 lag " + lag, x.right(lag - 1, 2), lag);
        }
    }

    private static void claimOfWorths() {
        for (int worth : new int[] {FAR[0], -1, 0, 51, FAR[1]}) {
            Refused.with(5, "28 worth " + worth, x -> x.claim(0, 0, 0, worth, 0));
        }
        DitchSaint x = new DitchSaint();
        Due.is(x, "28 worth 1", x.claim(0, 0, 0, 1, 0), 0);
        Due.is(x, "28 worth 50", x.claim(0, 0, 0, 50, 0), 1);
        Due.is(x, "28 worth 1", x.right(0, 3), 1);
        Due.is(x, "28 worth 50", x.right(1, 3), 50);
    }

    private static void claimOfMonths() {
        for (int months : new int[] {FAR[0], -1, 4096, FAR[1]}) {
            Refused.with(5, "28 months " + months, x -> x.claim(0, 0, 0, 1, months));
        }
        DitchSaint x = new DitchSaint();
        int[] all = {0, 1, 2048, 4095};
        for (int i = 0; i < all.length; i++) {
            Due.is(x, "28 months " + all[i], x.claim(0, 0, 0, 1, all[i]), i);
            Due.is(x, "28 months " + all[i], x.right(i, 4), all[i]);
        }
    }

    private static DitchSaint eight() {
        return Due.with("right west away worth 9 in 5;".repeat(8));
    }

    private static void claimOfNumbersFirst() {
        Refused.with(2, "28 2 ahead of 5", x -> x.claim(2, 3, 9, 99, -1));
        Refused.with(2, "28 2 ahead of 7", RightEdgeTest::eight, x -> x.claim(-1, 0, 0, 1, 0));
        Refused.with(5, "28 5 ahead of 7, kind", RightEdgeTest::eight, x -> x.claim(0, 3, 0, 1, 0));
        Refused.with(5, "28 5 ahead of 7, lag", RightEdgeTest::eight, x -> x.claim(0, 2, 7, 1, 0));
        Refused.with(5, "28 5 ahead of 7, worth", RightEdgeTest::eight, x -> x.claim(0, 0, 0, 51, 0));
        Refused.with(5, "28 5 ahead of 7, months", RightEdgeTest::eight, x -> x.claim(0, 0, 0, 1, 4096));
    }

    private static void atMostEightRights() {
        Refused.with(7, "28 a ninth", RightEdgeTest::eight, x -> x.claim(0, 0, 0, 1, 0));
        DitchSaint x = new DitchSaint();
        for (int i = 0; i < 8; i++) {
            Due.is(x, "28 its number", x.claim(0, 0, 0, 1 + i, 0), i);
        }
        Due.not(x, "28 a ninth", x.claim(0, 0, 0, 1, 0), 7);
        Due.is(x, "13 eight", x.many(0), 8);
        Due.is(x, "15 the eighth", x.right(7, 3), 8);
    }

    private static void claimedOneBears() {
        DitchSaint x = Due.with("toll 0;lies west;");
        x.month(3);
        x.carry(1, 1);
        x.month(1);
        x.claim(1, 2, 1, 1, 4095);
        x.claim(1, 2, 2, 2, 4095);
        x.claim(0, 0, 0, 4, 1 << 4);
        x.claim(0, 0, 0, 8, 1 << 3);
        Due.is(x, "28 by where he lay ahead of it, too", x.bears(), 2 + 4);
        Due.is(x, "28 brings", x.month(1), 2 + 4);
    }

    private static void ruleOfWhat() {
        for (int what : new int[] {FAR[0], -1, 0, 4, 8, FAR[1]}) {
            Refused.with(5, "29 what " + what, x -> x.rule(what, 1));
        }
    }

    private static void ruleOfOdds() {
        for (int much : new int[] {FAR[0], -1, 17, FAR[1]}) {
            Refused.with(5, "29 odds " + much, x -> x.rule(5, much));
        }
        DitchSaint x = new DitchSaint();
        for (int much = 0; much <= 16; much++) {
            Due.yes(x, "29 odds " + much, x.rule(5, much));
            Due.is(x, "29 odds " + much, x.many(5), much);
        }
        Due.is(x, "29 the toll is as it was", x.many(6), 2);
        Due.is(x, "29 the war is as it was", x.many(7), 5);
    }

    private static void ruleOfTollAndWar() {
        for (int what = 6; what <= 7; what++) {
            int of = what;
            for (int much : new int[] {FAR[0], -1, 100, FAR[1]}) {
                Refused.with(5, "29 " + what + " " + much, x -> x.rule(of, much));
            }
            DitchSaint x = new DitchSaint();
            for (int much : new int[] {0, 1, 16, 17, 98, 99}) {
                Due.yes(x, "29 " + what + " " + much, x.rule(what, much));
                Due.is(x, "29 " + what + " " + much, x.many(what), much);
            }
            Due.is(x, "29 the odds are as they were", x.many(5), 8);
            Due.is(x, "29 the other is as it was", x.many(13 - what), what == 6 ? 5 : 2);
        }
    }
}
