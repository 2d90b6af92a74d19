import java.lang.reflect.InvocationTargetException;
import java.lang.reflect.Method;
import java.util.ArrayList;
import java.util.Comparator;
import java.util.List;
import java.util.Random;

/** Wild calls by a seed: none throws, none that refuses changes anything, the same calls answer the same. */
public final class WildTest {
    private static final Check CHECK = new Check();
    private static final int[] EDGES = {0, 1, 2, 3, 4, 5, 6, 7, 8, 9, 10, 16, 17, 23, 24, 27, 28, 31, 32, 60, 61, 63,
        64, 255, 256, 16777215, 16777216, -1, -2, -3, 46, 48, 49, 53, 57, 59, 97, 104, 111, 117,
        Integer.MAX_VALUE, Integer.MIN_VALUE, Integer.MIN_VALUE + 1};

    /** The calls that may change something. */
    private static final String TELLING =
            " type wipe undo sit window back read smelt forget sheet lose put copy write ";

    public static void main(String[] args) throws ReflectiveOperationException {
        int runs = args.length > 0 ? Integer.parseInt(args[0]) : 200;
        for (int seed = 0; seed < runs && !CHECK.hasWrong(); seed++) {
            run(seed);
        }
        CHECK.end();
    }

    private static List<Method> calls() {
        List<Method> calls = new ArrayList<>(List.of(ChairSmells.class.getMethods()));
        calls.removeIf(call -> call.getDeclaringClass() != ChairSmells.class);
        calls.sort(Comparator.comparing(Method::getName));
        return calls;
    }

    /** The twin is told only of the calls that may change something and were not refused. */
    private static void run(int seed) throws ReflectiveOperationException {
        Random random = new Random(seed);
        List<Method> calls = calls();
        ChairSmells x = start(random);
        random.setSeed(seed);
        ChairSmells twin = start(random);
        for (int n = 0; n < 400; n++) {
            Method call = calls.get(random.nextInt(calls.size()));
            Object[] numbers = numbers(random, call.getParameterCount());
            String what = "seed " + seed + ", " + call.getName() + List.of(numbers);
            int finding = x.count(8);
            long answer = answer(call, x, numbers, what);
            if (!call.getName().equals("get")) {
                boolean found = answer <= -11 && answer >= -15 && TELLING.contains(" " + call.getName() + " ");
                CHECK.due(what + ": the latest finding", x.count(8), found ? -10 - answer : finding);
            }
            if (TELLING.contains(" " + call.getName() + " ") && answer >= 0) {
                CHECK.due(what + " by the twin", answer(call, twin, numbers, what), answer);
            }
        }
        CHECK.due("seed " + seed + ": digest", x.digest(), twin.digest());
        CHECK.same("seed " + seed + ": sheets", sheets(x), sheets(twin));
    }

    private static Object[] numbers(Random random, int n) {
        Object[] numbers = new Object[n];
        for (int i = 0; i < n; i++) {
            int kind = random.nextInt(20);
            numbers[i] = kind == 0 ? random.nextInt() : kind < 5 ? EDGES[random.nextInt(EDGES.length)]
                    : random.nextInt(6) - (random.nextInt(8) == 0 ? 1 : 0);
        }
        return numbers;
    }

    private static ChairSmells start(Random random) {
        String[] things = {"", "32o", "21u;55o;13u", "11o;22u;33o;44u;55o;15u", "32"};
        String[] people = {"", "51.", "90.;30b;11a;42.", "91.;72.;50.;33a;80.;60e;45.;21.", "5"};
        return Check.house(things[random.nextInt(5)], people[random.nextInt(5)]);
    }

    private static long answer(Method call, ChairSmells x, Object[] numbers, String what)
            throws ReflectiveOperationException {
        try {
            return ((Number) call.invoke(x, numbers)).longValue();
        } catch (InvocationTargetException thrown) {
            CHECK.same(what + " throws", thrown.getCause(), null);
            return 0;
        }
    }

    private static int sheets(ChairSmells x) {
        int hash = 0;
        for (int s = 0; s < 4; s++) {
            for (int form = 0; form < 3; form++) {
                for (int i = 0; i < 60; i++) {
                    hash = 31 * hash + x.get(s, form, i);
                }
            }
        }
        return hash;
    }
}
