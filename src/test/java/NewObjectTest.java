/** Promises 1 to 4. */
public final class NewObjectTest {
    public static void main(String[] args) {
        DitchSaint x = new DitchSaint();
        Due.is("1 status", x.status(), 0);
        Due.is("1 top", x.top(), 0);
        Due.is("1 bottom", x.bottom(), 1);
        Due.is("1 fault", x.fault(0), -1);
        int[] due = {0, 0, 0, 0, 0, 8, 2, 5, 0, 0, 0, 0};
        for (int i = 0; i < due.length; i++) {
            Due.is(x, "1 many " + i, x.many(i), due[i]);
        }
        for (int i = 0; i < 4; i++) {
            Due.not(x, "1 tray missing " + i, x.read(i, 0), 3);
        }
        Due.is(x, "1 east", x.chest(0), 0);
        Due.is(x, "1 west", x.chest(1), 0);
        for (int i = 0; i <= 6; i++) {
            Due.is(x, "1 lay", x.layAgo(i), 0);
        }
        Due.not(x, "1 no years", x.live(0), 8);
        Due.not(x, "1 no marks", x.back(), 8);
        Due.not(x, "1 empty tape", x.parish(1), 5);
        Due.is("1 empty tape", x.feed(0, 0, 0, 0, 0), 20);
        Due.is("1 NONE", DitchSaint.NONE, -1);

        x.many(12);
        Due.is("2 refused", x.status(), 5);
        Due.is("2 again", x.status(), 5);
        x.top();
        x.bottom();
        x.fault(0);
        x.fault(7);
        x.feed(1, 2, 3, 4, 5);
        Due.is("2 calls without one leave it", x.status(), 5);
        x.many(0);
        Due.is("2 answered", x.status(), 0);

        Due.fraction(x, "3 4", x.whose(0), 1, 2);
        Due.not(x, "3 4 refused", x.whose(1), 5);
        Due.is("3 stays", x.top(), 1);
        Due.is("4 stays", x.bottom(), 2);
        x.rule(5, 0);
        Due.fraction(x, "3 4 of nothing", x.whose(0), 0, 1);
        Due.end();
    }
}
