import java.util.LinkedHashMap;
import java.util.Map;
import java.util.function.Function;

/** Edges of STATUS, promises 1 to 4: which calls have one, that an answered call has 0, what the FRACTION is when. */
public final class StatusEdgeTest {
    public static void main(String[] args) {
        newOne();
        answeredIs0();
        without();
        latestCall();
        fractionAtFirst();
        fractionStays();
        twoObjects();
        Due.end();
    }

    /** Each call that has a STATUS, as it is answered of a busy one. */
    private static Map<String, Function<DitchSaint, Object>> answered() {
        Map<String, Function<DitchSaint, Object>> all = new LinkedHashMap<>();
        all.put("tray", x -> x.tray(1, 0, 1));
        all.put("write", x -> x.write(0, 0, 1));
        all.put("read", x -> x.read(0, 1));
        all.put("pour", x -> x.pour(0, 0, 2, 0, 1));
        all.put("parish", x -> x.parish(12));
        all.put("years", x -> x.years(0));
        all.put("many", x -> x.many(0));
        all.put("chest", x -> x.chest(0));
        all.put("right", x -> x.right(0, 0));
        all.put("debt", x -> x.debt(0, 1));
        all.put("owes", x -> x.owes(0));
        all.put("layAgo", x -> x.layAgo(6));
        all.put("clause", x -> x.clause(0, 0));
        all.put("witness", x -> x.witness(0, 0));
        all.put("copyWorth", x -> x.copyWorth(2));
        all.put("month", x -> x.month(1));
        all.put("carry", x -> x.carry(1, 1));
        all.put("swear", x -> x.swear(0, 1, 1));
        all.put("pay", x -> x.pay(0));
        all.put("price", x -> x.price(0, 1));
        all.put("grant", x -> x.grant(0, 0, false));
        all.put("claim", x -> x.claim(0, 0, 0, 1, 0));
        all.put("rule", x -> x.rule(5, 0));
        all.put("chestIn", x -> x.chestIn(0, 1));
        all.put("tollIn", x -> x.tollIn());
        all.put("bears", x -> x.bears());
        all.put("gain", x -> x.gain(0, 0));
        all.put("changes", x -> x.changes(0));
        all.put("net", x -> x.net(0));
        all.put("best", x -> x.best(0));
        all.put("isSo", x -> x.isSo(0, 0));
        all.put("howMany", x -> x.howMany(0));
        all.put("bestOf", x -> x.bestOf(0));
        all.put("even", x -> x.even());
        all.put("rent", x -> x.rent(0));
        all.put("rulings", x -> x.rulings());
        all.put("strike", x -> x.strike());
        all.put("strikeSet", x -> x.strikeSet());
        all.put("game", x -> x.game(0));
        all.put("moveOf", x -> x.moveOf(1));
        all.put("whose", x -> x.whose(0));
        all.put("share", x -> x.share(0));
        all.put("live", x -> x.live(0));
        all.put("lived", x -> x.lived(0));
        all.put("mean", x -> x.mean(0, 1));
        all.put("mark", x -> x.mark());
        all.put("back", x -> x.back());
        return all;
    }

    private static void newOne() {
        DitchSaint x = new DitchSaint();
        Due.is("1 status 0", x.status(), 0);
        Due.is("1 the tape is empty", x.feed(0, 0, 0, 0, 0), 20);
        Due.is("1 NONE", DitchSaint.NONE, -1);
        Due.is("1 status 0 still", x.status(), 0);
    }

    private static void answeredIs0() {
        for (Map.Entry<String, Function<DitchSaint, Object>> call : answered().entrySet()) {
            DitchSaint x = Refused.busy();
            x.many(12);
            Due.is("2 refused ahead", x.status(), 5);
            Object got = call.getValue().apply(x);
            Due.is("2 status of " + call.getKey() + ", which answered " + got, x.status(), 0);
            // a number that is read is -7, all others are above 0 or 0
            Due.yes("2 " + call.getKey() + " answered " + got, !got.equals(-1) && !got.equals(-1L) && !got.equals(false));
        }
        DitchSaint x = Due.with("ask a;clause a;");
        x.many(12);
        Due.is(x, "43 rulingAt", x.rulingAt(0), 1);
        x.many(12);
        Due.is(x, "46 sure", x.sure(0), 1);
    }

    private static void without() {
        DitchSaint x = Refused.busy();
        x.chest(2);
        x.status();
        x.fault(0);
        x.fault(1);
        x.fault(2);
        x.feed(1, 2, 3, 4, 5);
        x.top();
        x.bottom();
        Due.is("2 these have none", x.status(), 2);
        x.chest(1);
        x.fault(9);
        Due.is("2 these have none", x.status(), 0);
    }

    private static void latestCall() {
        DitchSaint x = new DitchSaint();
        int[] due = {1, 2, 3, 4, 5, 6, 7, 8, 9, 10, 11};
        x.tray(1, 0, 1);
        x.tray(2, 3, 1);
        for (int i = 0; i < 8; i++) {
            x.claim(0, 0, 0, 1, 0);
        }
        Runnable[] calls = {() -> x.read(4, 0), () -> x.chest(2), () -> x.read(0, 0), () -> x.read(1, 1), () -> x.many(12), () -> x.tray(0, 0, -1),
            () -> x.claim(0, 0, 0, 1, 0), () -> x.back(), () -> x.carry(1, 2), () -> Due.parish(x, "!"), () -> x.pour(1, 0, 2, 0, 1)};
        for (int i = 0; i < due.length; i++) {
            calls[i].run();
            Due.is("2 each status there is", x.status(), due[i]);
            Due.is("2 asked again", x.status(), due[i]);
        }
        x.many(0);
        Due.is("2 0 else", x.status(), 0);
    }

    private static void fractionAtFirst() {
        DitchSaint x = new DitchSaint();
        Due.is("3 0 at first", x.top(), 0);
        Due.is("4 1 at first", x.bottom(), 1);
        x.share(0);
        x.whose(1);
        x.mean(0, 1);
        Due.is("3 none was told", x.top(), 0);
        Due.is("4 none was told", x.bottom(), 1);
    }

    private static void fractionStays() {
        DitchSaint x = Due.with("odds 6;chest east 1;chest west 3;witness 0 0;", "month 1;");
        x.share(0);
        fraction(x, 1, 4);
        x.whose(2);
        fraction(x, 1, 4);
        x.whose(1);
        fraction(x, 1, 4);
        x.share(2);
        fraction(x, 1, 4);
        x.mean(0, 21);
        fraction(x, 1, 4);
        Due.parish(x, "odds 4;");
        fraction(x, 1, 4);
        x.share(0);
        fraction(x, 1, 4);
        x.mean(0, 1);
        fraction(x, 1, 4);
        x.whose(0);
        fraction(x, 1, 4);
        x.rule(5, 12);
        fraction(x, 1, 4);
        x.whose(0);
        fraction(x, 3, 4);
    }

    private static void fraction(DitchSaint x, long top, long bottom) {
        Due.is("3 top", x.top(), top);
        Due.is("4 bottom", x.bottom(), bottom);
    }

    private static void twoObjects() {
        DitchSaint x = Refused.busy();
        DitchSaint y = new DitchSaint();
        String fresh = Look.atAll(new DitchSaint());
        x.month(3);
        Due.yes("1 nothing of another object", Look.atAll(y).equals(fresh));
    }
}
