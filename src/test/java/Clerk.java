import java.util.ArrayList;
import java.util.HashSet;
import java.util.List;
import java.util.Set;

/**
 * Finds the FAULT of a text in the plainest way: all TOKENS first, then PART by PART (or STEP by STEP)
 * along a row of what must stand there; of one TOKEN all FAULTS are asked, and the least is told.
 */
final class Clerk {
    private static final Set<String> WORDS = Set.of(("odds toll war lies chest right worth in debt sum left ask clause not"
            + " witness east west here away late month carry swear pay any when owes loop end stop").split(" "));
    private static final String[] PARTS = {"odds 0-16", "toll 0-99", "war 0-99", "lies side", "chest newside 0-999",
        "right side kind worth 1-50 in months", "debt side sum 1-99 left 1-24", "ask newname", "clause literals", "witness 0-16 0-16"};
    private static final String[] STEPS = {"month 1-24", "carry 1-20 1-20", "swear side 1-99 1-24", "pay 0-4", "any", "when test", "loop 1-99", "stop"};
    private static final int[] MOST = {1, 1, 1, 1, 2, 8, 5, 6, 8, 6};

    private final List<String> tokens = new ArrayList<>();
    private final List<Integer> places = new ArrayList<>();
    private final int[] count = new int[PARTS.length];
    private final Set<String> names = new HashSet<>();
    private final Set<String> chests = new HashSet<>();
    private int at;
    int fault;
    int place = -1;
    int steps;

    private Clerk(String text) {
        int i = 0;
        while (i < text.length()) {
            int end = i;
            String sort = "\n ".indexOf(text.charAt(i)) >= 0 ? "[\n ]" : text.substring(i, i + 1).matches("[a-z]") ? "[a-z]" : "[0-9]";
            while (end < text.length() && text.substring(end, end + 1).matches(sort)) {
                end++;
            }
            end = Math.max(end, i + 1);
            if (!sort.equals("[\n ]")) {
                tokens.add(text.substring(i, end));
                places.add(i);
            }
            i = end;
        }
        tokens.add("");
        places.add(text.length());
    }

    static Clerk ofParish(String text) {
        Clerk clerk = new Clerk(text);
        while (clerk.fault == 0 && !clerk.now().isEmpty()) {
            clerk.part();
        }
        return clerk;
    }

    static Clerk ofYears(String text) {
        Clerk clerk = new Clerk(text);
        int open = 0;
        while (clerk.fault == 0 && !(clerk.now().isEmpty() && open == 0)) {
            open += clerk.step(open);
        }
        return clerk;
    }

    private String now() {
        return tokens.get(at);
    }

    /** The TOKEN at hand stands there only if no FAULT of it holds; these are given from the least on, 0 for none. */
    private boolean stands(int... faults) {
        boolean isNone = !now().isEmpty() && !now().matches("[a-z]+|[0-9]{1,4}|[;<>=]");
        for (int one : faults) {
            if (one != 0 || isNone) {
                fault = isNone ? 1 : one;
                place = places.get(at);
                return false;
            }
        }
        at++;
        return true;
    }

    private static int if1(boolean holds, int kind) {
        return holds ? kind : 0;
    }

    private void part() {
        int sort = find(PARTS);
        if (sort < 0) {
            stands(2);
            return;
        }
        boolean isOver = sort != 4 && count[sort] == MOST[sort];
        if (stands(if1(isOver && sort < 5, 5), if1(isOver && sort > 4, 6))) {
            count[sort]++;
            goAlong(PARTS[sort] + " ;");
        }
    }

    private int step(int open) {
        boolean isEnd = now().equals("end");
        int sort = find(STEPS);
        boolean opens = sort == 5 || sort == 6;
        if (stands(if1(sort < 0 && !(isEnd && open > 0), 2), if1(!isEnd && steps == 30, 6), if1(opens && open == 3, 7))) {
            steps += isEnd ? 0 : 1;
            goAlong(isEnd ? "end ;" : STEPS[sort] + " ;");
        }
        return isEnd ? -1 : opens ? 1 : 0;
    }

    private int find(String[] rows) {
        for (int i = 0; i < rows.length; i++) {
            if (rows[i].split(" ")[0].equals(now())) {
                return i;
            }
        }
        return -1;
    }

    private void goAlong(String row) {
        String[] all = row.split(" ");
        for (int i = 1; i < all.length && fault == 0; i++) {
            one(all[i]);
        }
    }

    private void one(String what) {
        switch (what) {
            case "side": stands(if1(!isSide(), 2)); break;
            case "newside": stands(if1(!isSide(), 2), if1(!chests.add(now()), 5)); break;
            case "kind": kind(); break;
            case "months": months(); break;
            case "newname": stands(if1(!isName(), 2), if1(isName() && !names.add(now()), 3)); break;
            case "literals": literals(); break;
            case "test": test(); break;
            default:
                if (what.contains("-")) {
                    number(what.split("-"));
                } else {
                    stands(if1(!now().equals(what), 2));
                }
        }
    }

    private boolean isSide() {
        return now().equals("east") || now().equals("west");
    }

    private boolean isName() {
        return now().matches("[a-z]{1,8}") && !WORDS.contains(now());
    }

    private boolean isNumber() {
        return now().matches("[0-9]{1,4}");
    }

    private boolean number(String... range) {
        boolean fits = isNumber() && Integer.parseInt(now()) >= Integer.parseInt(range[0]) && Integer.parseInt(now()) <= Integer.parseInt(range[1]);
        return stands(if1(!isNumber(), 2), if1(!fits, 4));
    }

    private void kind() {
        boolean isLate = now().equals("late");
        if (stands(if1(!isLate && !now().equals("here") && !now().equals("away"), 2)) && isLate) {
            number("1", "6");
        }
    }

    private void months() {
        Set<Integer> told = new HashSet<>();
        while (fault == 0 && isNumber()) {
            int month = Integer.parseInt(now());
            stands(if1(month > 11, 4), if1(!told.add(month), 5));
        }
    }

    private void literals() {
        for (int i = 0; fault == 0 && (i == 0 || !now().equals(";")); i++) {
            boolean isNot = now().equals("not");
            if (isNot) {
                stands(if1(i == 3, 5));
            }
            if (fault == 0) {
                stands(if1(!isName(), 2), if1(!names.contains(now()), 3), if1(i == 3, 5));
            }
        }
    }

    private void test() {
        boolean isChest = now().equals("chest");
        if (stands(if1(!isChest && !now().equals("lies") && !now().equals("owes"), 2)) && stands(if1(!isSide(), 2)) && isChest
                && stands(if1(!now().matches("[<>=]"), 2))) {
            number("0", "9999");
        }
    }
}
