import java.lang.management.ManagementFactory;
import java.lang.reflect.Method;
import java.util.Arrays;
import java.util.List;
import java.util.Random;

/** LANGUAGE.md, rules 7, 12 and 13: no call throws, none makes anything new, and the same calls give the same answers. */
public final class SafetyTest {
    private static final int[] OUTERMOST = {Integer.MIN_VALUE, -1, 0, 1, 3, 12, 100, 1001, Integer.MAX_VALUE};

    public static void main(String[] args) throws Exception {
        Check check = new Check();
        List<Method> calls = RandomCalls.face();
        for (int seed = 0; seed < 100; seed++) {
            run(check, calls, seed);
        }
        for (String script : List.of("", Halls.RICH, Halls.members(10) + Halls.askings(20) + Halls.fiveRows(21))) {
            everyEdge(check, calls, script);
        }
        noCallMakesAnything(check);
        check.end();
    }

    /** Far more calls than the document promises answers for: even then nothing is thrown. */
    private static void run(Check check, List<Method> calls, int seed) {
        Random random = new Random(seed);
        SpeakHall x = new SpeakHall();
        SpeakHall twin = new SpeakHall();
        for (int n = 0; n < 4000; n++) {
            Method call = calls.get(random.nextInt(calls.size()));
            Object[] with = new Object[call.getParameterCount()];
            for (int i = 0; i < with.length; i++) {
                boolean yesOrNo = call.getParameterTypes()[i] == boolean.class;
                int low = random.nextInt(4);
                with[i] = yesOrNo ? (Object) random.nextBoolean() : (Object) (random.nextBoolean() ? low : RandomCalls.EDGES[random.nextInt(RandomCalls.EDGES.length)]);
            }
            try {
                check.due("twins", (int) call.invoke(x, with), (int) call.invoke(twin, with));
            } catch (ReflectiveOperationException e) {
                check.holds(call.getName() + Arrays.toString(with) + " threw " + e.getCause(), false);
                return;
            }
        }
    }

    /** Every call with every mix of the outermost numbers and those next to the bounds. */
    private static void everyEdge(Check check, List<Method> calls, String script) {
        for (Method call : calls) {
            SpeakHall hall = new SpeakHall();
            for (Script.Row row : Script.rows(script)) {
                Script.answer(hall, row.call());
            }
            int parameters = call.getParameterCount();
            int[] edges = parameters > 3 ? OUTERMOST : RandomCalls.EDGES;
            int mixes = (int) Math.round(Math.pow(edges.length, parameters));
            for (int mix = 0; mix < mixes; mix++) {
                Object[] with = new Object[parameters];
                int rest = mix;
                for (int i = 0; i < parameters; i++, rest /= edges.length) {
                    int edge = edges[rest % edges.length];
                    with[i] = call.getParameterTypes()[i] == boolean.class ? (Object) (edge > 0) : (Object) edge;
                }
                try {
                    call.invoke(hall, with);
                } catch (ReflectiveOperationException e) {
                    check.holds(call.getName() + Arrays.toString(with) + " threw " + e.getCause(), false);
                    return;
                }
            }
            check.holds(call.getName() + " answered " + mixes + " mixes", mixes > 0);
        }
    }

    private static void noCallMakesAnything(Check check) {
        com.sun.management.ThreadMXBean threads = (com.sun.management.ThreadMXBean) ManagementFactory.getThreadMXBean();
        long self = Thread.currentThread().getId();
        SpeakHall warm = new SpeakHall();
        everyCall(warm);
        SpeakHall x = new SpeakHall();
        threads.getThreadAllocatedBytes(self);
        long before = threads.getThreadAllocatedBytes(self);
        for (int i = 0; i < 100; i++) {
            everyCall(x);
        }
        long made = threads.getThreadAllocatedBytes(self) - before;
        check.holds("3400 calls make nothing new, but " + made + " bytes", made < 3400);
    }

    private static void everyCall(SpeakHall x) {
        x.member(0, 0);
        x.as(0, 0);
        x.present(0, true);
        x.of(0, 3);
        x.time(0);
        x.ask(0, 0);
        x.ask(0, 2);
        x.ask(1, 0);
        x.withdraw(1, 0);
        x.key(5);
        x.listed(0, true);
        x.place(0, 2);
        x.wait(0);
        x.fits(100, true);
        x.begin();
        x.cut();
        x.tick(1);
        x.yield();
        x.floor(0);
        x.limit(0, 9);
        x.vote();
        x.say(0, 1);
        x.votes(1);
        x.close(2);
        x.hands(2, 5, 5, 1);
        x.apart();
        x.uneven(true);
        x.minutes(0, 2);
        x.right(0, 1);
        x.sum(0, 1);
        x.sheet(0, 8, 3);
        x.put(0, 0, 5);
        x.copy(0, 0, 0, 1, 2);
        x.noKeys();
        x.read(0);
        x.told(4);
    }
}
