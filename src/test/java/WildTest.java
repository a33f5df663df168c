import java.lang.reflect.InvocationTargetException;
import java.lang.reflect.Method;
import java.lang.reflect.Modifier;
import java.util.ArrayList;
import java.util.Comparator;
import java.util.List;
import java.util.Random;

/**
 * Any call, with any arguments: nothing is thrown, what is refused gives nothing; and an object whose
 * calls are the same without those that were refused answers the same, and is the same in the end.
 */
public final class WildTest {
    private static final int[] EDGES = {-1, 12, 13, 16, 17, 20, 21, 24, 25, 50, 51, 60, 61, 99, 100, 300, 301, 900, 901,
        999, 4095, 4096, 9999, 10000, Integer.MAX_VALUE, Integer.MIN_VALUE};
    private static final String[] TEXTS = {Due.PARISH, "", "toll 0;lies west;chest east 999;", "odds 17;", "ask a;clause a b;",
        "month 1;any;any;any;", "loop 99;any;when owes east;pay 0;end;swear west 9 3;end;", "loop 1;", "go"};

    public static void main(String[] args) throws Exception {
        List<Method> calls = calls();
        for (int run = 0; run < 2000; run++) {
            wild(calls, new Random(run));
        }
        Due.end();
    }

    private static List<Method> calls() {
        List<Method> calls = new ArrayList<>();
        for (Method method : DitchSaint.class.getDeclaredMethods()) {
            // status() is not among them: that of a refused call is just what the twin has not
            if (Modifier.isPublic(method.getModifiers()) && !method.getName().equals("status")) {
                calls.add(method);
            }
        }
        calls.sort(Comparator.comparing(Method::getName));
        return calls;
    }

    private static void wild(List<Method> calls, Random random) throws Exception {
        DitchSaint x = new DitchSaint();
        DitchSaint twin = new DitchSaint();
        for (int i = 0; i < 60; i++) {
            if (random.nextInt(12) == 0) {
                text(x, twin, random);
                continue;
            }
            Method call = calls.get(random.nextInt(calls.size()));
            Object[] with = arguments(call, random);
            Object got = answer(call, x, with);
            int status = hasStatus(call) ? x.status() : 0;
            Due.yes("a status that is there", status >= 0 && status <= 11);
            if (status != 0) {
                Due.yes(call.getName() + " refused gives nothing", got.equals(-1) || got.equals(-1L) || got.equals(false));
            }
            if (status == 0 || status == 10) {
                Due.yes("twins agree on " + call.getName(), got.equals(answer(call, twin, with)));
            }
        }
        Due.yes("twins are alike", Look.through(x).equals(Look.through(twin)));
    }

    private static void text(DitchSaint x, DitchSaint twin, Random random) {
        String text = TEXTS[random.nextInt(TEXTS.length)];
        boolean isYears = random.nextBoolean();
        int got = isYears ? Due.years(x, text) : Due.parish(x, text);
        Due.is("a twin's text", isYears ? Due.years(twin, text) : Due.parish(twin, text), got);
    }

    private static boolean hasStatus(Method call) {
        return !List.of("fault", "feed", "top", "bottom").contains(call.getName());
    }

    private static Object[] arguments(Method call, Random random) {
        Class<?>[] types = call.getParameterTypes();
        Object[] with = new Object[types.length];
        for (int i = 0; i < types.length; i++) {
            int any = random.nextInt(6) == 0 ? EDGES[random.nextInt(EDGES.length)] : random.nextInt(random.nextBoolean() ? 3 : 13);
            with[i] = types[i] == boolean.class ? random.nextBoolean() : types[i] == long.class ? (Object) random.nextLong() : any;
        }
        return with;
    }

    private static Object answer(Method call, DitchSaint x, Object[] with) throws IllegalAccessException {
        try {
            return call.invoke(x, with);
        } catch (InvocationTargetException thrown) {
            Due.yes(call.getName() + java.util.Arrays.toString(with) + " threw " + thrown.getCause(), false);
            return "thrown";
        }
    }
}
