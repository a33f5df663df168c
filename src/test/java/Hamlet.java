import java.util.ArrayList;
import java.util.List;
import java.util.function.Predicate;

/** All that a MARK keeps, as the document tells it: lists and trees, copied whole, nothing worked out ahead. */
final class Hamlet {
    int odds = 8;
    int toll = 2;
    int war = 5;
    int lies = 0;
    final int[] chest = new int[2];
    /** SIDE, KIND, LAG, WORTH, MONTHS. */
    final List<int[]> rights = new ArrayList<>();
    /** SIDE, SUM, LEFT. */
    final List<int[]> debts = new ArrayList<>();
    final List<String> names = new ArrayList<>();
    final List<int[]> clauses = new ArrayList<>();
    final List<int[]> witnesses = new ArrayList<>();
    /** Where he lay in each MONTH that went by, the first one first. */
    final List<Integer> lay = new ArrayList<>();
    int layFirst = 0;
    int carried;
    int lapsed;
    /** null if there are no YEARS. */
    List<Step> years;

    /** A STEP: its WORDS and NUMBERS, and those within it. */
    record Step(String[] words, List<Step> within) {
    }

    /** Of a text without a FAULT. */
    static Hamlet of(String text) {
        Hamlet made = new Hamlet();
        for (String[] part : parts(text)) {
            made.tell(part);
        }
        made.layFirst = made.lies;
        return made;
    }

    static List<String[]> parts(String text) {
        List<String[]> all = new ArrayList<>();
        for (String part : text.split(";")) {
            String spaced = part.replaceAll("([a-z]+|[0-9]+|[<>=])", " $1 ").trim();
            if (!spaced.isEmpty()) {
                all.add(spaced.split("[ \n]+"));
            }
        }
        return all;
    }

    private static int side(String word) {
        return word.equals("east") ? 0 : 1;
    }

    private static int number(String word) {
        return Integer.parseInt(word);
    }

    private void tell(String[] w) {
        switch (w[0]) {
            case "odds": odds = number(w[1]); break;
            case "toll": toll = number(w[1]); break;
            case "war": war = number(w[1]); break;
            case "lies": lies = side(w[1]); break;
            case "chest": chest[side(w[1])] = number(w[2]); break;
            case "right": tellRight(w); break;
            case "debt": debts.add(new int[] {side(w[1]), number(w[3]), number(w[5])}); break;
            case "ask": names.add(w[1]); break;
            case "clause": tellClause(w); break;
            default: witnesses.add(new int[] {number(w[1]), number(w[2])});
        }
    }

    private void tellRight(String[] w) {
        int kind = List.of("here", "away", "late").indexOf(w[2]);
        int at = kind == 2 ? 4 : 3;
        int months = 0;
        for (int i = at + 3; i < w.length; i++) {
            months += 1 << number(w[i]);
        }
        rights.add(new int[] {side(w[1]), kind, kind == 2 ? number(w[3]) : 0, number(w[at + 1]), months});
    }

    private void tellClause(String[] w) {
        int[] sets = new int[2];
        for (int i = 1; i < w.length; i++) {
            boolean isNot = w[i].equals("not");
            i += isNot ? 1 : 0;
            sets[isNot ? 1 : 0] |= 1 << names.indexOf(w[i]);
        }
        clauses.add(sets);
    }

    static List<Step> steps(String text) {
        return steps(parts(text), new int[1]);
    }

    private static List<Step> steps(List<String[]> parts, int[] at) {
        List<Step> all = new ArrayList<>();
        while (at[0] < parts.size()) {
            String[] w = parts.get(at[0]++);
            if (w[0].equals("end")) {
                return all;
            }
            boolean opens = w[0].equals("when") || w[0].equals("loop");
            all.add(new Step(w, opens ? steps(parts, at) : List.of()));
        }
        return all;
    }

    Hamlet copy() {
        Hamlet made = new Hamlet();
        made.odds = odds;
        made.toll = toll;
        made.war = war;
        made.lies = lies;
        made.chest[0] = chest[0];
        made.chest[1] = chest[1];
        rights.forEach(one -> made.rights.add(one.clone()));
        debts.forEach(one -> made.debts.add(one.clone()));
        made.names.addAll(names);
        made.clauses.addAll(clauses);
        made.witnesses.addAll(witnesses);
        made.lay.addAll(lay);
        made.layFirst = layFirst;
        made.carried = carried;
        made.lapsed = lapsed;
        made.years = years;
        return made;
    }

    int ago(int months) {
        int at = lay.size() - months;
        return months == 0 ? lies : at < 0 ? layFirst : lay.get(at);
    }

    boolean bears(int[] right) {
        boolean isMonth = (right[4] >> lay.size() % 12 & 1) == 1;
        boolean isThere = right[1] == 0 ? lies == right[0] : right[1] == 1 ? lies != right[0] : ago(right[2]) == right[0];
        return isMonth && isThere;
    }

    void month() {
        for (int[] right : rights) {
            if (bears(right)) {
                chest[right[0]] = Math.min(9999, chest[right[0]] + right[3]);
            }
        }
        debts.forEach(debt -> debt[2]--);
        lapse(debt -> debt[2] == 0);
        lay.add(lies);
    }

    private void lapse(Predicate<int[]> which) {
        int before = debts.size();
        debts.removeIf(which);
        lapsed += before - debts.size();
    }

    boolean months(int many) {
        boolean can = lay.size() + many <= 9999;
        for (int i = 0; can && i < many; i++) {
            month();
        }
        return can;
    }

    boolean carry(int east, int west) {
        boolean can = east == west && chest[1 - lies] >= toll;
        if (can) {
            lies = 1 - lies;
            chest[lies] -= toll;
            lapse(debt -> true);
            carried++;
        }
        return can;
    }

    boolean swear(int side, int sum, int left) {
        return debts.size() < 5 && debts.add(new int[] {side, sum, left});
    }

    boolean pay(int debt) {
        boolean can = debt < debts.size() && chest[debts.get(debt)[0]] >= debts.get(debt)[1];
        if (can) {
            int[] paid = debts.remove(debt);
            chest[paid[0]] -= paid[1];
            chest[1 - paid[0]] = Math.min(9999, chest[1 - paid[0]] + paid[1]);
        }
        return can;
    }

    /** STEPS done, MISSED, then 1 if a STEP was left to be done, 1 if it was stopped; s is the last. */
    int[] live(int seed) {
        int[] told = {0, 0, 0, 0, seed};
        liveAll(years, told);
        return told;
    }

    private void liveAll(List<Step> steps, int[] told) {
        for (Step step : steps) {
            if (told[0] == 300 && told[3] == 0) {
                told[2] = 1;
            }
            if (told[2] == 1 || told[3] == 1) {
                return;
            }
            told[0]++;
            String[] w = step.words();
            int times = w[0].equals("loop") ? number(w[1]) : w[0].equals("when") && holds(w) ? 1 : 0;
            for (int i = 0; i < times; i++) {
                liveAll(step.within(), told);
            }
            told[1] += can(w, told) ? 0 : 1;
        }
    }

    private boolean holds(String[] w) {
        int side = side(w[2]);
        switch (w[1]) {
            case "lies": return lies == side;
            case "owes": return debts.stream().anyMatch(debt -> debt[0] == side);
            default:
                int order = Integer.signum(chest[side] - number(w[4]));
                return order == (w[3].equals("<") ? -1 : w[3].equals(">") ? 1 : 0);
        }
    }

    private boolean can(String[] w, int[] told) {
        switch (w[0]) {
            case "month": return months(number(w[1]));
            case "carry": return carry(number(w[1]), number(w[2]));
            case "swear": return swear(side(w[1]), number(w[2]), number(w[3]));
            case "pay": return pay(number(w[1]));
            case "any":
                int east = draw(told, 4) + 1;
                int west = draw(told, 4) + 1;
                return draw(told, 16) < odds ? carry(east, west) : months(1);
            case "stop": told[3] = 1; return true;
            default: return true;
        }
    }

    private static int draw(int[] told, int n) {
        told[4] = (told[4] * 2971 + 10939) % 65536;
        return told[4] / 8 % n;
    }
}
