import java.math.BigInteger;
import java.util.ArrayDeque;
import java.util.ArrayList;
import java.util.Arrays;
import java.util.Deque;
import java.util.List;

/**
 * The face of the document once more, each call answered from its words in the plainest way, with all the
 * Java library: what DitchSaint is held against. FAULTS are found by Clerk.
 */
public final class Plain {
    private final long[][] trays = new long[4][];
    private final int[] sorts = new int[4];
    private final Deque<Hamlet> marks = new ArrayDeque<>();
    private Hamlet now = new Hamlet();
    private String tape = "";
    private int status;
    private BigInteger top = BigInteger.ZERO;
    private BigInteger bottom = BigInteger.ONE;
    private int[] told;
    private int[] lived;

    private static boolean in(int number, int least, int most) {
        return number >= least && number <= most;
    }

    private int told(int why, int answer) {
        status = why;
        return why == 0 ? answer : -1;
    }

    private boolean told(int why) {
        status = why;
        return why == 0;
    }

    private static int side(int side) {
        return in(side, 0, 1) ? 0 : 2;
    }

    private static int at(int number, int many) {
        return in(number, 0, many - 1) ? 0 : 2;
    }

    private static int can(int number, int least, int most) {
        return in(number, least, most) ? 0 : 5;
    }

    /** The first that holds; those that do not are 0. */
    private static int first(int... whys) {
        return Arrays.stream(whys).filter(why -> why != 0).min().orElse(0);
    }

    public int status() {
        return status;
    }

    public long top() {
        return top.longValueExact();
    }

    public long bottom() {
        return bottom.longValueExact();
    }

    public boolean tray(int tray, int sort, int many) {
        int why = first(in(tray, 0, 3) && in(sort, 0, 3) ? 0 : 1, many > 60 ? 5 : 0, many < 0 ? 6 : 0);
        if (why == 0) {
            trays[tray] = new long[many];
            sorts[tray] = sort;
        }
        return told(why);
    }

    private int place(int tray, int place) {
        return !in(tray, 0, 3) ? 1 : trays[tray] == null ? 3 : in(place, 0, trays[tray].length - 1) ? 0 : 4;
    }

    public boolean write(int tray, int place, long v) {
        int why = place(tray, place);
        if (why == 0) {
            int over = 64 - (8 << sorts[tray]);
            trays[tray][place] = v << over >> over;
        }
        return told(why);
    }

    public long read(int tray, int place) {
        return told(place(tray, place)) ? trays[tray][place] : -1;
    }

    public boolean pour(int tray, int i, int to, int j, int many) {
        int why = !in(tray, 0, 3) || !in(to, 0, 3) ? 1 : trays[tray] == null || trays[to] == null ? 3
                : sorts[tray] != sorts[to] ? 11 : many < 0 ? 6
                : i < 0 || j < 0 || (long) i + many > trays[tray].length || (long) j + many > trays[to].length ? 4 : 0;
        if (why == 0) {
            long[] poured = Arrays.copyOfRange(trays[tray], i, i + many);
            System.arraycopy(poured, 0, trays[to], j, many);
        }
        return told(why);
    }

    public int feed(int a, int b, int c, int d, int e) {
        if (tape.length() + 20 > 900) {
            return -1;
        }
        for (int four : new int[] {a, b, c, d, e}) {
            tape += "" + (char) (four >>> 24) + (char) (four >>> 16 & 255) + (char) (four >>> 8 & 255) + (char) (four & 255);
        }
        return tape.length();
    }

    public int parish(int n) {
        if (!in(n, 0, tape.length())) {
            return told(5, 0);
        }
        String text = tape.substring(0, n);
        Clerk clerk = keep(Clerk.ofParish(text));
        if (clerk.fault == 0) {
            now = Hamlet.of(text);
        }
        return told(clerk.fault == 0 ? 0 : 10, now.rights.size());
    }

    public int years(int n) {
        if (!in(n, 0, Math.min(300, tape.length()))) {
            return told(5, 0);
        }
        String text = tape.substring(0, n);
        Clerk clerk = keep(Clerk.ofYears(text));
        if (clerk.fault == 0) {
            now.years = Hamlet.steps(text);
        }
        return told(clerk.fault == 0 ? 0 : 10, clerk.steps);
    }

    private Clerk keep(Clerk clerk) {
        tape = "";
        told = new int[] {clerk.fault, clerk.place};
        return clerk;
    }

    public int fault(int what) {
        return told != null && in(what, 0, 1) ? told[what] : -1;
    }

    public int many(int what) {
        int[] all = {now.rights.size(), now.debts.size(), now.names.size(), now.clauses.size(), now.witnesses.size(),
            now.odds, now.toll, now.war, now.lies, now.lay.size(), now.lapsed, now.carried};
        return told(can(what, 0, 11)) ? all[what] : -1;
    }

    public int chest(int side) {
        return told(side(side)) ? now.chest[side] : -1;
    }

    public int right(int right, int what) {
        int why = first(at(right, now.rights.size()), can(what, 0, 4));
        int isNone = why == 0 && what == 2 && now.rights.get(right)[1] != 2 ? 8 : 0;
        return told(first(why, isNone)) ? now.rights.get(right)[what] : -1;
    }

    public int debt(int debt, int what) {
        return told(first(at(debt, now.debts.size()), can(what, 0, 2))) ? now.debts.get(debt)[what] : -1;
    }

    public int owes(int side) {
        return told(side(side), now.debts.stream().filter(debt -> debt[0] == side).mapToInt(debt -> debt[1]).sum());
    }

    public int layAgo(int months) {
        return told(can(months, 0, 6)) ? now.ago(months) : -1;
    }

    public int clause(int clause, int what) {
        return told(first(at(clause, now.clauses.size()), can(what, 0, 1))) ? now.clauses.get(clause)[what] : -1;
    }

    public int witness(int witness, int side) {
        return told(first(at(witness, now.witnesses.size()), side(side))) ? now.witnesses.get(witness)[side] : -1;
    }

    public int copyWorth(int tray) {
        int many = now.rights.size();
        int why = !in(tray, 0, 3) ? 1 : trays[tray] == null ? 3 : trays[tray].length < many ? 4 : 0;
        for (int i = 0; why == 0 && i < many; i++) {
            trays[tray][i] = now.rights.get(i)[3];
        }
        return told(why, many);
    }

    public int month(int months) {
        int why = can(months, 1, 99);
        why = why == 0 && !now.months(months) ? 7 : why;
        return told(why, now.chest[0] + now.chest[1]);
    }

    public int carry(int east, int west) {
        int why = first(can(east, 1, 20), can(west, 1, 20));
        why = why == 0 && !now.carry(east, west) ? 9 : why;
        return told(why, now.lies);
    }

    public int swear(int side, int sum, int left) {
        int why = first(side(side), can(sum, 1, 99), can(left, 1, 24));
        why = why == 0 && !now.swear(side, sum, left) ? 7 : why;
        return told(why, now.debts.size());
    }

    public int pay(int debt) {
        int why = at(debt, now.debts.size());
        int side = why == 0 ? now.debts.get(debt)[0] : 0;
        why = why == 0 && !now.pay(debt) ? 9 : why;
        return told(why, now.chest[side]);
    }

    public int price(int right, int worth) {
        if (!told(first(at(right, now.rights.size()), can(worth, 1, 50)))) {
            return -1;
        }
        int was = now.rights.get(right)[3];
        now.rights.get(right)[3] = worth;
        return was;
    }

    public boolean grant(int right, int month, boolean is) {
        int why = first(at(right, now.rights.size()), can(month, 0, 11));
        if (why == 0) {
            int[] one = now.rights.get(right);
            boolean was = (one[4] & 1 << month) != 0;
            why = was == is ? 9 : 0;
            one[4] = is ? one[4] | 1 << month : one[4] & ~(1 << month);
        }
        return told(why);
    }

    public int claim(int side, int kind, int lag, int worth, int months) {
        int why = first(side(side), can(kind, 0, 2), can(lag, kind == 2 ? 1 : 0, kind == 2 ? 6 : 0), can(worth, 1, 50),
                can(months, 0, 4095), now.rights.size() == 8 ? 7 : 0);
        if (why == 0) {
            now.rights.add(new int[] {side, kind, lag, worth, months});
        }
        return told(why, now.rights.size() - 1);
    }

    public boolean rule(int what, int much) {
        int why = first(can(what, 5, 7), can(much, 0, what == 5 ? 16 : 99));
        if (why == 0) {
            now.odds = what == 5 ? much : now.odds;
            now.toll = what == 6 ? much : now.toll;
            now.war = what == 7 ? much : now.war;
        }
        return told(why);
    }

    private Hamlet ahead(int months) {
        Hamlet then = now.copy();
        for (int i = 0; i < months; i++) {
            then.month();
        }
        return then;
    }

    public int chestIn(int side, int months) {
        return told(first(side(side), can(months, 0, 60))) ? ahead(months).chest[side] : -1;
    }

    public int tollIn() {
        for (int i = 0; i <= 60; i++) {
            if (ahead(i).chest[1 - now.lies] >= now.toll) {
                return told(0, i);
            }
        }
        return told(8, 0);
    }

    public int bears() {
        int set = 0;
        for (int i = 0; i < now.rights.size(); i++) {
            set += now.bears(now.rights.get(i)) ? 1 << i : 0;
        }
        return told(0, set);
    }

    public int gain(int side, int plan) {
        return told(first(side(side), can(plan, 0, 4095))) ? Almanac.gain(now, side, Almanac.row(plan)) : -1;
    }

    public int changes(int plan) {
        return told(can(plan, 0, 4095)) ? Almanac.changes(Almanac.row(plan)) : -1;
    }

    public int net(int plan) {
        return told(can(plan, 0, 4095)) ? new Almanac(now).net[plan] : -1;
    }

    public int best(int c) {
        return told(can(c, 0, 12)) ? new Almanac(now).greatest(plan -> Almanac.changes(Almanac.row(plan)) <= c) : -1;
    }

    public int isSo(int plan, int what) {
        return told(first(can(plan, 0, 4095), can(what, 0, 1))) ? new Almanac(now).isSo(plan, what) ? 1 : 0 : -1;
    }

    public int howMany(int what) {
        if (!told(can(what, 0, 1))) {
            return -1;
        }
        Almanac all = new Almanac(now);
        int many = 0;
        for (int plan = 0; plan < 4096; plan++) {
            many += all.isSo(plan, what) ? 1 : 0;
        }
        return many;
    }

    public int bestOf(int what) {
        if (!told(can(what, 0, 1))) {
            return -1;
        }
        Almanac all = new Almanac(now);
        int best = all.greatest(plan -> all.isSo(plan, what));
        return told(best == -1 ? 8 : 0, best);
    }

    public int even() {
        return told(0, new Almanac(now).even());
    }

    public int rent(int month) {
        return told(can(month, 0, 11)) ? new Almanac(now).rent(month) : -1;
    }

    /** All RULINGS by these CLAUSES. */
    private List<Integer> rulingsBy(int held) {
        List<Integer> all = new ArrayList<>();
        for (int truths = 0; truths < 1 << now.names.size(); truths++) {
            boolean isOne = true;
            for (int i = 0; i < now.clauses.size(); i++) {
                int[] sets = now.clauses.get(i);
                boolean isSo = (sets[0] & truths) != 0 || (sets[1] & truths) != sets[1];
                isOne &= isSo || (held >> i & 1) == 0;
            }
            if (isOne) {
                all.add(truths);
            }
        }
        return all;
    }

    public int rulings() {
        return told(0, rulingsBy(255).size());
    }

    public int rulingAt(int k) {
        List<Integer> all = rulingsBy(255);
        return told(in(k, 0, all.size() - 1) ? 0 : 8) ? all.get(k) : -1;
    }

    private int struck() {
        for (int many = 0; many <= 8; many++) {
            for (int set = 0; set < 256; set++) {
                if (Integer.bitCount(set) == many && !rulingsBy(255 - set).isEmpty()) {
                    return set;
                }
            }
        }
        return -1;
    }

    public int strike() {
        return told(0, Integer.bitCount(struck()));
    }

    public int strikeSet() {
        return told(0, struck());
    }

    public int sure(int question) {
        int why = at(question, now.names.size());
        List<Integer> all = rulingsBy(255);
        long isTrue = all.stream().filter(truths -> (truths >> Math.max(question, 0) & 1) == 1).count();
        boolean isSure = !all.isEmpty() && (isTrue == 0 || isTrue == all.size());
        return told(first(why, isSure ? 0 : 8), isTrue > 0 ? 1 : 0);
    }

    public int game(int turns) {
        return told(can(turns, 0, 4)) ? new Almanac(now).play(0, 0, turns, true) : -1;
    }

    public int moveOf(int turns) {
        int why = can(turns, 1, 4);
        int move = why == 0 ? new Almanac(now).move(turns) : 0;
        return told(first(why, move == 12 ? 8 : 0), move);
    }

    private boolean fraction(int why, BigInteger part, BigInteger whole) {
        int isNone = whole.signum() == 0 ? 8 : 0;
        if (first(why, isNone) == 0) {
            top = part.divide(part.gcd(whole));
            bottom = whole.divide(part.gcd(whole));
        }
        return told(first(why, isNone));
    }

    public boolean whose(int n) {
        int why = can(n, 0, now.witnesses.size());
        BigInteger east = BigInteger.valueOf(now.odds);
        BigInteger west = BigInteger.valueOf(16 - now.odds);
        for (int i = 0; why == 0 && i < n; i++) {
            east = east.multiply(BigInteger.valueOf(now.witnesses.get(i)[0]));
            west = west.multiply(BigInteger.valueOf(now.witnesses.get(i)[1]));
        }
        return fraction(why, east, east.add(west));
    }

    public boolean share(int side) {
        int has = side(side) == 0 ? now.chest[side] : 0;
        return fraction(side(side), BigInteger.valueOf(has), BigInteger.valueOf(now.chest[0] + now.chest[1]));
    }

    public int live(int seed) {
        int why = first(can(seed, 0, 9999), now.years == null ? 8 : 0);
        if (why != 0) {
            return told(why, 0);
        }
        Hamlet was = now.copy();
        int[] done = now.live(seed);
        lived = new int[] {done[1], now.lay.size() - was.lay.size(), now.carried - was.carried, now.lapsed - was.lapsed, done[2]};
        return told(0, done[0]);
    }

    public int lived(int what) {
        return told(first(can(what, 0, 4), lived == null ? 8 : 0)) ? lived[what] : -1;
    }

    public boolean mean(int seed, int many) {
        boolean isLast = (long) seed + many - 1 <= 9999;
        int why = first(can(seed, 0, 9999), can(many, 1, 20), isLast ? 0 : 5, now.years == null ? 8 : 0);
        long sum = 0;
        for (int i = 0; why == 0 && i < many; i++) {
            Hamlet then = now.copy();
            then.live(seed + i);
            sum += then.chest[0] + then.chest[1];
        }
        return fraction(why, BigInteger.valueOf(sum), BigInteger.valueOf(why == 0 ? many : 1));
    }

    public int mark() {
        if (marks.size() == 3) {
            return told(7, 0);
        }
        marks.push(now.copy());
        return told(0, marks.size());
    }

    public int back() {
        if (marks.isEmpty()) {
            return told(8, 0);
        }
        now = marks.pop();
        return told(0, marks.size());
    }
}
