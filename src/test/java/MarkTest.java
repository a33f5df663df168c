/** Promises 54, 55. */
public final class MarkTest {
    public static void main(String[] args) {
        DitchSaint x = Due.with(Due.PARISH, "month 2;carry 1 1;");
        Due.not(x, "55 none", x.back(), 8);
        String first = Look.at(x);
        Due.is(x, "54 first", x.mark(), 1);
        x.month(7);
        x.carry(1, 1);
        x.price(0, 44);
        x.swear(1, 3, 3);
        String second = Look.at(x);
        Due.is(x, "54 second", x.mark(), 2);
        x.claim(1, 2, 3, 4, 5);
        x.rule(5, 1);
        x.rule(6, 0);
        x.rule(7, 9);
        x.grant(1, 11, true);
        x.live(5);
        String third = Look.at(x);
        Due.is(x, "54 third", x.mark(), 3);
        Due.not(x, "54 a fourth", x.mark(), 7);
        Due.parish(x, "lies west;ask q;clause q;witness 1 2;chest east 55;");
        Due.is(x, "10 anew", x.many(0), 0);
        Due.not(x, "10 no years", x.live(0), 8);
        x.tray(2, 1, 4);
        x.write(2, 3, 77);
        x.whose(1);

        Due.is(x, "55 to the third", x.back(), 2);
        Due.yes("55 third", third.equals(Look.at(x)));
        Due.is(x, "55 trays are not taken back", x.read(2, 3), 77);
        Due.is("55 nor is the fraction", x.top(), 1);
        Due.is(x, "55 years are back", x.live(0), 2);
        Due.is(x, "54 one more again", x.mark(), 3);
        x.month(9);
        Due.is(x, "55", x.back(), 2);
        Due.years(x, "stop;stop;stop;");

        Due.is(x, "55 to the second", x.back(), 1);
        Due.yes("55 second", second.equals(Look.at(x)));
        x.mark();
        Due.is(x, "51 the old years", x.live(0), 2);
        x.back();
        Due.yes("55 second once more", second.equals(Look.at(x)));
        Due.is(x, "55 to the first", x.back(), 0);
        Due.yes("55 first", first.equals(Look.at(x)));
        Due.not(x, "55 none left", x.back(), 8);
        noYears();
        Due.end();
    }

    private static void noYears() {
        DitchSaint x = new DitchSaint();
        x.mark();
        Due.years(x, "month 1;");
        x.live(0);
        Due.is(x, "55", x.back(), 0);
        Due.not(x, "55 no years then", x.live(0), 8);
        Due.is(x, "55 the latest live() stays the latest", x.lived(1), 1);
        Due.is(x, "55 month 0", x.many(9), 0);
    }
}
