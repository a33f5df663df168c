import java.lang.reflect.Method;
import java.util.ArrayList;
import java.util.Arrays;
import java.util.HashMap;
import java.util.List;
import java.util.Map;
import java.util.Random;

/**
 * Promises 1 to 55, all together: long runs of calls, made at random, to DitchSaint and to Plain; every answer,
 * every STATUS and every FRACTION must be alike. What one promise leaves behind for another shows here alone.
 */
public final class PlainTest {
    /** A call, how often it comes, and between what each of its numbers mostly is. */
    private static final String[] CALLS = {"tray 8 0-3 0-1 0-60", "write 6 0-3 0-9 -300-300", "read 6 0-3 0-9", "pour 6 0-3 0-4 0-3 0-4 0-6", "fault 1 0-1",
        "many 8 0-11", "chest 4 0-1", "right 4 0-7 0-4", "debt 4 0-4 0-2", "owes 2 0-1", "layAgo 3 0-6", "clause 2 0-7 0-1", "witness 2 0-5 0-1",
        "copyWorth 2 0-3", "month 12 1-20", "carry 8 1-3 1-3", "swear 8 0-1 1-99 1-24", "pay 8 0-3", "price 3 0-5 1-50", "grant 4 0-5 0-11 0-1",
        "claim 4 0-1 0-2 0-1 1-50 0-4095", "rule 4 5-7 0-16", "chestIn 3 0-1 0-60", "tollIn 3", "bears 3", "gain 3 0-1 0-4095", "changes 2 0-4095",
        "net 2 0-4095", "best 2 0-12", "isSo 2 0-4095 0-1", "howMany 2 0-1", "bestOf 2 0-1", "even 2", "rent 2 0-11", "rulings 2", "rulingAt 3 0-9",
        "strike 2", "strikeSet 2", "sure 2 0-5", "game 2 0-4", "moveOf 2 1-4", "whose 3 0-6", "share 3 0-1", "live 8 0-9999", "lived 8 0-4",
        "mean 3 0-9980 1-20", "mark 5", "back 5"};
    private static final int[] EDGES = {-1, 0, 6, 7, 12, 13, 16, 17, 20, 21, 24, 25, 50, 51, 60, 61, 99, 100, 4096, 9999, 10000,
        Integer.MAX_VALUE, Integer.MIN_VALUE};

    /** Runs in which every STATUS comes up often. */
    private static final int ENOUGH = 600;

    private static final Map<String, Method> OF_CLASS = new HashMap<>();
    private static final Map<String, Method> OF_PLAIN = new HashMap<>();
    private static final Map<Integer, Integer> SEEN = new HashMap<>();

    private final Random random;
    private final Weaver weaver;
    private final DitchSaint x = new DitchSaint();
    private final Plain plain = new Plain();
    private final StringBuilder ran = new StringBuilder();
    private int left = 512;

    private PlainTest(int seed) {
        random = new Random(seed);
        weaver = new Weaver(random);
    }

    public static void main(String[] args) throws Exception {
        int runs = args.length > 0 ? Integer.parseInt(args[0]) : ENOUGH;
        for (Method method : DitchSaint.class.getMethods()) {
            OF_CLASS.put(method.getName(), method);
        }
        for (Method method : Plain.class.getMethods()) {
            OF_PLAIN.put(method.getName(), method);
        }
        for (int seed = 0; seed < runs; seed++) {
            new PlainTest(seed).run();
        }
        for (int status = 0; status <= 11 && runs >= ENOUGH; status++) {
            Due.yes("some calls have STATUS " + status, SEEN.getOrDefault(status, 0) > 20);
        }
        Due.end();
    }

    private void run() throws Exception {
        List<String> calls = new ArrayList<>();
        for (String call : CALLS) {
            for (int i = Integer.parseInt(call.split(" ")[1]); i > 0; i--) {
                calls.add(call);
            }
        }
        if (random.nextInt(10) == 0) {
            growOld();
        }
        while (left > 60) {
            if (random.nextInt(15) == 0) {
                text(random.nextInt(3) > 0);
            } else {
                any(calls.get(random.nextInt(calls.size())).split(" "));
            }
        }
    }

    /** To the last MONTHS that there are. */
    private void growOld() throws Exception {
        text(false);
        for (int i = 0; i < 100; i++) {
            same("month", 99);
        }
    }

    private void text(boolean isYears) throws Exception {
        String text = isYears ? weaver.years() : weaver.parish();
        for (int i = 0; i < text.length(); i += 20) {
            Object[] row = new Object[5];
            for (int k = 0; k < 5; k++) {
                int four = 0;
                for (int sign = i + 4 * k; sign < i + 4 * k + 4; sign++) {
                    four = four << 8 | (sign < text.length() ? text.charAt(sign) : ' ');
                }
                row[k] = four;
            }
            same("feed", row);
        }
        int n = random.nextInt(20) == 0 ? random.nextInt(text.length() + 40) : text.length();
        same(isYears ? "years" : "parish", n);
        same("fault", 0);
        same("fault", 1);
    }

    private void any(String[] call) throws Exception {
        Object[] with = new Object[call.length - 2];
        for (int i = 0; i < with.length; i++) {
            int between = call[i + 2].indexOf('-', 1);
            int least = Integer.parseInt(call[i + 2].substring(0, between));
            int most = Integer.parseInt(call[i + 2].substring(between + 1));
            with[i] = least + random.nextInt(most - least + 1);
            if (random.nextInt(14) == 0) {
                with[i] = random.nextInt(3) == 0 ? least - 1 : random.nextBoolean() ? most + 1 : EDGES[random.nextInt(EDGES.length)];
            }
        }
        if (call[0].equals("claim") && with[1].equals(2) && random.nextBoolean()) {
            with[2] = 1 + random.nextInt(6);
        } else if (call[0].equals("claim") && !with[1].equals(2) && random.nextBoolean()) {
            with[2] = 0;
        } else if (call[0].equals("carry") && random.nextBoolean()) {
            with[1] = with[0];
        } else if (call[0].equals("write")) {
            with[2] = random.nextBoolean() ? random.nextLong() : (long) (Integer) with[2];
        } else if (call[0].equals("grant")) {
            with[2] = random.nextBoolean();
        }
        same(call[0], with);
    }

    /** An object has 512 calls; so STATUS and the FRACTION are asked only where a call may have touched them. */
    private void same(String name, Object... with) throws Exception {
        ran.append(' ').append(name).append(Arrays.toString(with));
        Object due = OF_PLAIN.get(name).invoke(plain, with);
        Object got = OF_CLASS.get(name).invoke(x, with);
        alike(name, got, due);
        left--;
        if (!List.of("feed", "fault").contains(name)) {
            SEEN.merge(plain.status(), 1, Integer::sum);
            alike("its status", x.status(), plain.status());
            left--;
        }
        if (List.of("whose", "share", "mean", "back").contains(name)) {
            alike("top", x.top(), plain.top());
            alike("bottom", x.bottom(), plain.bottom());
            left -= 2;
        }
    }

    private void alike(String what, Object got, Object due) {
        boolean isSame = got.equals(due);
        Due.yes(isSame ? what : "run" + ran + ": " + what + " " + got + ", due " + due, isSame);
    }
}
