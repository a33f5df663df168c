import java.util.function.Consumer;

/** Edges of MARKS, promises 54 and 55. */
public final class MarkEdgeTest {
    public static void main(String[] args) {
        atMostThree();
        noneToGoBackTo();
        latestFirst();
        goneThen();
        allIsTakenBack();
        theRestIsNot();
        aParishOutlastsNoMark();
        markOfANewObject();
        Due.end();
    }

    private static DitchSaint three() {
        DitchSaint x = Due.with("toll 0;", "month 1;");
        x.mark();
        x.month(1);
        x.mark();
        x.month(1);
        x.mark();
        x.month(1);
        return x;
    }

    private static void atMostThree() {
        Refused.with(7, "54 a fourth", MarkEdgeTest::three, x -> x.mark());
        DitchSaint x = new DitchSaint();
        for (int i = 1; i <= 3; i++) {
            Due.is(x, "54 how many", x.mark(), i);
        }
        Due.not(x, "54 a fourth", x.mark(), 7);
        Due.is(x, "55 two are left", x.back(), 2);
        Due.is(x, "54 a third again", x.mark(), 3);
        Due.not(x, "54 no fourth", x.mark(), 7);
    }

    private static void noneToGoBackTo() {
        Refused.with(8, "55 none at first", DitchSaint::new, x -> x.back());
        Refused.with(8, "55 none", () -> Due.with(Due.PARISH, "month 1;"), x -> x.back());
        DitchSaint x = new DitchSaint();
        x.mark();
        Due.is(x, "55 none is left", x.back(), 0);
        Due.not(x, "55 none more", x.back(), 8);
    }

    private static void latestFirst() {
        DitchSaint x = three();
        for (int left = 2; left >= 0; left--) {
            Due.is(x, "55 how many are left", x.back(), left);
            Due.is(x, "55 to the latest", x.many(9), left);
        }
    }

    private static void goneThen() {
        DitchSaint x = three();
        x.back();
        Due.is(x, "55 to the third", x.many(9), 2);
        x.month(9);
        x.back();
        Due.is(x, "55 to the second, not the third", x.many(9), 1);
        x.month(5);
        Due.is(x, "54 a second", x.mark(), 2);
        x.month(5);
        x.back();
        Due.is(x, "55 to the new one", x.many(9), 6);
        x.back();
        Due.is(x, "55 to the first", x.many(9), 0);
    }

    private static void allIsTakenBack() {
        back("22 month", x -> x.month(7));
        back("23 carry", x -> x.carry(1, 1));
        back("24 swear", x -> x.swear(1, 4, 4));
        back("25 pay", x -> x.pay(0));
        back("26 price", x -> x.price(3, 50));
        back("27 grant", x -> x.grant(0, 11, true));
        back("28 claim", x -> x.claim(1, 2, 6, 50, 4095));
        back("29 odds", x -> x.rule(5, 1));
        back("29 toll", x -> x.rule(6, 1));
        back("29 war", x -> x.rule(7, 1));
        back("51 live", x -> x.live(0));
        back("11 years", x -> Due.years(x, "stop;"));
        back("11 years of nothing", x -> x.years(0));
        back("10 parish", x -> Due.parish(x, "lies east;witness 1 1;ask a;clause a;chest east 1;right west here worth 2 in 3;"));
        back("10 parish of nothing", x -> x.parish(0));
        back("54 another mark", x -> {
            x.mark();
            x.month(1);
            x.back();
            x.carry(1, 1);
        });
    }

    private static DitchSaint rich() {
        DitchSaint x = Due.with(Due.PARISH, "month 2;carry 1 1;swear east 1 9;");
        x.month(1);
        x.carry(2, 2);
        x.swear(0, 5, 9);
        return x;
    }

    private static void back(String what, Consumer<DitchSaint> change) {
        DitchSaint x = rich();
        DitchSaint y = rich();
        x.mark();
        change.accept(x);
        Due.is(x, "55 behind " + what, x.back(), 0);
        Due.yes("55 all is taken back: " + what, Look.at(x).equals(Look.at(y)));
        Due.is(x, "55 the years, too: " + what, x.live(4), 3);
        y.live(4);
        Due.yes("55 lived alike: " + what, Look.at(x).equals(Look.at(y)));
    }

    private static void theRestIsNot() {
        DitchSaint x = Due.with("chest east 1;", "month 1;");
        x.tray(0, 0, 1);
        x.mark();
        x.write(0, 0, 5);
        x.tray(1, 0, 1);
        x.share(0);
        x.live(0);
        Due.parish(x, "odds 17;");
        Due.feed(x, "war 9;");
        x.back();
        Due.is(x, "55 a number in a tray stays", x.read(0, 0), 5);
        Due.is(x, "55 a tray stays", x.read(1, 0), 0);
        Due.is("55 the fraction stays, top", x.top(), 1);
        Due.is("55 the fraction stays, bottom", x.bottom(), 1);
        Due.is(x, "55 the latest live() stays", x.lived(1), 1);
        Due.is("55 the fault stays", x.fault(0), 4);
        Due.is("55 its place stays", x.fault(1), 5);
        Due.is(x, "55 the tape stays", x.parish(6), 0);
        Due.is(x, "55 as it was", x.many(7), 9);
    }

    private static void aParishOutlastsNoMark() {
        DitchSaint x = three();
        Due.parish(x, "war 1;");
        Due.not(x, "54 three are there still", x.mark(), 7);
        Due.is(x, "55 back to the old parish", x.back(), 2);
        Due.is(x, "55 its war", x.many(7), 5);
        Due.is(x, "55 its month", x.many(9), 2);
        Due.is(x, "55 its years", x.live(0), 1);
    }

    private static void markOfANewObject() {
        DitchSaint x = new DitchSaint();
        String before = Look.at(x);
        x.mark();
        Due.parish(x, Due.PARISH);
        Due.years(x, "month 1;");
        x.live(0);
        Due.is(x, "55 back", x.back(), 0);
        Due.yes("55 a parish of nothing", before.equals(Look.at(x)));
        Due.not(x, "55 no years", x.live(0), 8);
    }
}
