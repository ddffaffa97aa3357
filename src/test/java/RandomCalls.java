import java.lang.reflect.Method;
import java.lang.reflect.Modifier;
import java.util.ArrayList;
import java.util.Arrays;
import java.util.Comparator;
import java.util.List;
import java.util.Map;
import java.util.Random;

/** Random runs of calls, the same ones for the same seed. */
final class RandomCalls {
    static final int CALLS = 512;
    /** Numbers at and next to the bounds that the document names, and the outermost ones. */
    static final int[] EDGES = {Integer.MIN_VALUE, Integer.MIN_VALUE + 1, -100001, -32, -2, -1, 0, 1, 2, 3, 4, 5, 6, 7, 8, 9, 10,
        11, 12, 13, 16, 19, 20, 32, 39, 40, 41, 50, 51, 99, 100, 101, 200, 201, 1000, 1001, 65536, Integer.MAX_VALUE - 1, Integer.MAX_VALUE};

    record Call(Method method, Object[] with) {
        int on(Object hall) throws ReflectiveOperationException {
            Method its = hall instanceof SpeakHall ? method : hall.getClass().getMethod(method.getName(), method.getParameterTypes());
            return (int) its.invoke(hall, with);
        }

        @Override
        public String toString() {
            return method.getName() + Arrays.toString(with);
        }
    }

    /** For each call the ends of what its numbers are drawn from. */
    private static final Map<String, int[]> ENDS = Map.ofEntries(
            Map.entry("member", new int[] {0, 3, 0, 4}), Map.entry("as", new int[] {0, 9, 0, 3}), Map.entry("present", new int[] {0, 9, 0, 0}),
            Map.entry("of", new int[] {0, 9, 0, 4}), Map.entry("time", new int[] {0, 4}), Map.entry("ask", new int[] {0, 9, 0, 2}),
            Map.entry("withdraw", new int[] {0, 9, 0, 2}), Map.entry("key", new int[] {1, 9}), Map.entry("noKeys", new int[] {}),
            Map.entry("listed", new int[] {0, 9, 0, 0}), Map.entry("place", new int[] {0, 9, 0, 2}), Map.entry("wait", new int[] {0, 9}),
            Map.entry("fits", new int[] {0, 120, 0, 0}), Map.entry("begin", new int[] {}), Map.entry("cut", new int[] {}),
            Map.entry("tick", new int[] {1, 9}), Map.entry("yield", new int[] {}), Map.entry("floor", new int[] {0, 3}),
            Map.entry("limit", new int[] {0, 2, 1, 15}), Map.entry("vote", new int[] {}), Map.entry("say", new int[] {0, 9, 0, 2}),
            Map.entry("votes", new int[] {0, 2}), Map.entry("close", new int[] {1, 3}), Map.entry("hands", new int[] {1, 3, 0, 30, 0, 30, 0, 6}),
            Map.entry("apart", new int[] {}), Map.entry("uneven", new int[] {0, 0}), Map.entry("minutes", new int[] {0, 60, 0, 3}),
            Map.entry("right", new int[] {0, 30, 0, 200}), Map.entry("sum", new int[] {0, 9, 0, 12}), Map.entry("sheet", new int[] {0, 3, 0, 3, 0, 12}),
            Map.entry("put", new int[] {0, 3, 0, 7, 0, 9}), Map.entry("copy", new int[] {0, 3, 0, 4, 0, 3, 0, 4, 0, 6}), Map.entry("read", new int[] {0, 3}),
            Map.entry("told", new int[] {0, 6}));

    private static final List<List<String>> FAVOURED = List.of(List.of("ask", "begin", "yield"), List.of(), List.of("ask", "begin", "yield", "right"), List.of(),
            List.of("put", "read"), List.of(), List.of("ask", "cut", "tick"), List.of());

    private RandomCalls() { }

    /** All calls of the face, in the order of their names. */
    static List<Method> face() {
        List<Method> calls = new ArrayList<>();
        for (Method m : SpeakHall.class.getDeclaredMethods()) {
            if (Modifier.isPublic(m.getModifiers())) {
                calls.add(m);
            }
        }
        calls.sort(Comparator.comparing(Method::getName));
        return calls;
    }

    static List<Call> run(int seed) {
        Random random = new Random(seed);
        List<Method> calls = face();
        // Each run likes some calls more than others, so that full rows and rare states are reached.
        int[] weights = new int[calls.size()];
        int all = 0;
        for (int i = 0; i < weights.length; i++) {
            weights[i] = random.nextInt(4) == 0 ? 12 : 1 + random.nextInt(3);
            if (FAVOURED.get(seed % FAVOURED.size()).contains(calls.get(i).getName())) {
                weights[i] = 60;
            }
            all += weights[i];
        }
        int members = random.nextInt(11);
        List<Call> run = new ArrayList<>();
        for (int n = 0; n < CALLS; n++) {
            int at = 0;
            for (int w = random.nextInt(all); w >= weights[at]; at++) {
                w -= weights[at];
            }
            Method call = n < members ? named(calls, "member") : calls.get(at);
            run.add(new Call(call, arguments(random, call)));
        }
        return run;
    }

    private static Method named(List<Method> calls, String name) {
        return calls.stream().filter(m -> m.getName().equals(name)).findFirst().get();
    }

    private static Object[] arguments(Random random, Method call) {
        int[] ends = ENDS.get(call.getName());
        Class<?>[] types = call.getParameterTypes();
        Object[] with = new Object[types.length];
        for (int i = 0; i < types.length; i++) {
            int least = ends[2 * i];
            int most = ends[2 * i + 1];
            if (types[i] == boolean.class) {
                with[i] = call.getName().equals("present") ? random.nextInt(3) > 0 : random.nextBoolean();
            } else if (random.nextInt(30) == 0) {
                with[i] = random.nextBoolean() ? EDGES[random.nextInt(EDGES.length)] : random.nextBoolean() ? least - 1 : most + 1;
            } else if (call.getName().equals("sheet") && i == 1) {
                with[i] = new int[] {0, 8, 8, 8, 16, 32}[random.nextInt(6)];
            } else if (call.getName().equals("put") && i == 2 && random.nextBoolean()) {
                // Different numbers at different places, so that a sheet with many KEYS comes about.
                with[i] = Math.floorMod((int) with[1], 9) + 1;
            } else if (call.getName().equals("put") && i == 2 && random.nextInt(4) == 0) {
                with[i] = random.nextInt(10) + (random.nextInt(5) - 2) * (random.nextBoolean() ? 256 : 65536);
            } else {
                with[i] = least + random.nextInt(most - least + 1);
            }
        }
        return with;
    }
}
