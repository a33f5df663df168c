import java.util.function.Function;
import java.util.function.Supplier;

/** Calls that are refused: NONE or false, the STATUS that is due, and all else as it was. */
final class Refused {
    private Refused() {
    }

    /** Of an object that has something of everything. */
    static void with(int status, String what, Function<DitchSaint, Object> call) {
        with(status, what, Refused::busy, call);
    }

    static void with(int status, String what, Supplier<DitchSaint> made, Function<DitchSaint, Object> call) {
        DitchSaint x = made.get();
        Object got = call.apply(x);
        Due.yes(what + " answered " + got, got.equals(-1) || got.equals(-1L) || got.equals(false));
        Due.is("status behind " + what, x.status(), status);
        Due.yes(what + " leaves all as it was", Look.through(x).equals(Look.through(made.get())));
    }

    static DitchSaint busy() {
        DitchSaint x = Due.with(Due.PARISH, "month 1;any;swear east 3 2;");
        x.tray(0, 0, 3);
        x.write(0, 1, -7);
        x.tray(2, 0, 5);
        x.write(2, 4, 9);
        x.tray(3, 3, 1);
        x.write(3, 0, Long.MIN_VALUE);
        x.live(3);
        x.whose(1);
        x.mark();
        x.month(5);
        x.price(1, 9);
        Due.years(x, "loop 2;month 1;end;pay 0;");
        x.mark();
        x.claim(1, 2, 3, 4, 5);
        x.swear(0, 2, 9);
        x.swear(1, 30, 5);
        x.swear(0, 7, 3);
        x.swear(1, 99, 24);
        Due.years(x, "stop");
        Due.feed(x, "war 7;ask a;");
        return x;
    }
}
