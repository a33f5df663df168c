import java.util.ArrayList;
import java.util.List;
import java.util.Random;

/** Lives YEARS in the plainest way: a tree of STEPS, made at random, done to a state of its own. */
final class Parson {
    static final String RIGHTS = "right east here worth 7 in 0 1 2 3 4 5;right west here worth 9 in 3 4 5 6 7 8;"
            + "right west away worth 2 in 0 6;right east late 3 worth 4 in 1 5 9 11;";

    final Random random;
    final List<Object[]> steps = new ArrayList<>();
    int stepCount;

    int odds = 8;
    int toll = 2;
    final int[] chest = new int[2];
    final List<int[]> debts = new ArrayList<>();
    final List<Integer> lay = new ArrayList<>();
    final int textLies;
    int lies;
    int lapsed;
    int carried;
    int missed;
    int done;
    boolean cut;
    boolean stopped;
    private long s;

    Parson(Random random) {
        this.random = random;
        textLies = random.nextInt(2);
        lies = textLies;
        odds = random.nextInt(17);
        toll = random.nextInt(random.nextBoolean() ? 4 : 30);
        chest[0] = random.nextInt(60);
        chest[1] = random.nextInt(60);
    }

    String parish() {
        return "odds " + odds + ";toll " + toll + ";lies " + Village.name(lies) + ";chest east " + chest[0]
                + ";chest west " + chest[1] + ";" + RIGHTS;
    }

    /** Makes STEPS, and tells their text. */
    String years(List<Object[]> into, int depth) {
        StringBuilder text = new StringBuilder();
        int many = random.nextInt(depth == 0 ? 8 : 4);
        for (int i = 0; i < many && stepCount < 30; i++) {
            stepCount++;
            text.append(step(into, depth));
        }
        return text.toString();
    }

    private String step(List<Object[]> into, int depth) {
        int sort = random.nextInt(depth < 3 ? 10 : 7);
        int a = 1 + random.nextInt(sort == 0 ? 24 : 3);
        int b = 1 + random.nextInt(sort == 2 ? 40 : 3);
        int side = random.nextInt(2);
        int c = 1 + random.nextInt(6);
        List<Object[]> inner = new ArrayList<>();
        into.add(new Object[] {sort, a, b, side, c, inner, null});
        switch (sort) {
            case 0: return "month " + a + ";";
            case 1: return "carry " + a + " " + b + ";";
            case 2: return "swear " + Village.name(side) + " " + b + " " + c + ";";
            case 3: return "pay " + (c - 1 < 5 ? c - 1 : 0) + ";";
            case 4: return random.nextInt(12) == 0 ? change(into, 10, "stop;") : change(into, 4, "any;");
            case 5:
            case 6: return change(into, 4, "any;");
            case 7:
            case 8: return when(into, side, inner, depth);
            default:
                int times = random.nextInt(4) == 0 ? 99 : 1 + random.nextInt(20);
                into.get(into.size() - 1)[1] = times;
                return "loop " + times + "; " + years(inner, depth + 1) + "end;";
        }
    }

    private static String change(List<Object[]> into, int sort, String text) {
        into.get(into.size() - 1)[0] = sort;
        return text;
    }

    private String when(List<Object[]> into, int side, List<Object[]> inner, int depth) {
        String[] tests = {"lies ", "owes ", "<", ">", "="};
        String test = tests[random.nextInt(5)];
        int number = random.nextInt(80);
        Object[] step = into.get(into.size() - 1);
        step[0] = 7;
        step[1] = number;
        step[6] = test;
        String name = Village.name(side);
        String asked = test.length() > 1 ? test + name : "chest " + name + test + number;
        return "when " + asked + ";" + years(inner, depth + 1) + "end;";
    }

    void live(int seed) {
        s = seed;
        doAll(steps);
    }

    private int draw(int n) {
        s = (s * 2971 + 10939) % 65536;
        return (int) (s / 8 % n);
    }

    @SuppressWarnings("unchecked")
    private void doAll(List<Object[]> list) {
        for (Object[] step : list) {
            if (cut || stopped) {
                return;
            }
            if (done == 300) {
                cut = true;
                return;
            }
            done++;
            List<Object[]> inner = (List<Object[]>) step[5];
            int a = (Integer) step[1];
            switch ((Integer) step[0]) {
                case 7:
                    if (holds((String) step[6], (Integer) step[3], a)) {
                        doAll(inner);
                    }
                    break;
                case 9:
                    for (int i = 0; i < a && !cut && !stopped; i++) {
                        doAll(inner);
                    }
                    break;
                case 10:
                    stopped = true;
                    break;
                default:
                    missed += can((Integer) step[0], a, (Integer) step[2], (Integer) step[3], (Integer) step[4]) ? 0 : 1;
            }
        }
    }

    private boolean holds(String test, int side, int number) {
        switch (test) {
            case "lies ": return lies == side;
            case "owes ": return debts.stream().anyMatch(d -> d[0] == side);
            case "<": return chest[side] < number;
            case ">": return chest[side] > number;
            default: return chest[side] == number;
        }
    }

    private boolean can(int sort, int a, int b, int side, int c) {
        switch (sort) {
            case 0: return months(a);
            case 1: return carry(a, b);
            case 2: return debts.size() < 5 && debts.add(new int[] {side, b, c});
            case 3: return pay(c - 1 < 5 ? c - 1 : 0);
            default:
                int east = draw(4) + 1;
                int west = draw(4) + 1;
                return draw(16) < odds ? carry(east, west) : months(1);
        }
    }

    boolean months(int many) {
        if (lay.size() + many > 9999) {
            return false;
        }
        for (int i = 0; i < many; i++) {
            int m = lay.size() % 12;
            int ago = lay.size() >= 3 ? lay.get(lay.size() - 3) : textLies;
            chest[0] += lies == 0 && m <= 5 ? 7 : 0;
            chest[1] += lies == 1 && m >= 3 && m <= 8 ? 9 : 0;
            chest[1] += lies == 0 && (m == 0 || m == 6) ? 2 : 0;
            chest[0] += ago == 0 && (m == 1 || m == 5 || m == 9 || m == 11) ? 4 : 0;
            chest[0] = Math.min(9999, chest[0]);
            chest[1] = Math.min(9999, chest[1]);
            lay.add(lies);
            int before = debts.size();
            debts.forEach(d -> d[2]--);
            debts.removeIf(d -> d[2] == 0);
            lapsed += before - debts.size();
        }
        return true;
    }

    private boolean carry(int east, int west) {
        if (east != west || chest[1 - lies] < toll) {
            return false;
        }
        lies = 1 - lies;
        chest[lies] -= toll;
        lapsed += debts.size();
        debts.clear();
        carried++;
        return true;
    }

    private boolean pay(int debt) {
        if (debt >= debts.size() || chest[debts.get(debt)[0]] < debts.get(debt)[1]) {
            return false;
        }
        int[] d = debts.remove(debt);
        chest[d[0]] -= d[1];
        chest[1 - d[0]] = Math.min(9999, chest[1 - d[0]] + d[1]);
        return true;
    }
}
