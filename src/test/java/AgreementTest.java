import java.math.BigInteger;
import java.util.ArrayList;
import java.util.Collections;
import java.util.List;
import java.util.Random;
import java.util.Set;
import java.util.TreeSet;

/**
 * What one call answers agrees with what the others show, in many states and through the face alone: WAIT with what
 * happens if it is really played, FITS with THE LIST and the LIMITS, many TICKS at once with one after the other, and on.
 */
public final class AgreementTest {
    private static final int RUNS = 400;
    private static final int MEMBERS = 10;
    private static final int DELEGATIONS = 5;
    private static final int MOST_WAIT = 100;
    private static final Check check = new Check();
    private static final Set<Integer> waits = new TreeSet<>();

    /** How the state that is looked at came about; each look has an object of its own, within its 512 calls. */
    private record State(String name, List<RandomCalls.Call> calls) {
        SpeakHall hall() throws ReflectiveOperationException {
            SpeakHall hall = new SpeakHall();
            for (RandomCalls.Call call : calls) {
                call.on(hall);
            }
            return hall;
        }
    }

    private record Asking(int member, int sort, int limit) { }

    public static void main(String[] args) throws Exception {
        for (int seed = 0; seed < RUNS; seed++) {
            State state = new State("seed " + seed, RandomCalls.run(seed).subList(0, 30 + seed * 7 % 150));
            waitIsAsPlayed(state, 0);
            waitIsAsPlayed(new State(state.name + ", uneven", state.calls.subList(0, 30)), 1 + seed % 5);
            theListIsAsPlaces(state);
            nextAndPointsAreOfTheList(state);
            fitsAreOfTheList(state);
            ticksAddUp(state);
            votesAreOfThosePresent(state);
            fairnessIsOfTimes(state);
            sumsAreOfMinutes(state);
            readIsAsKeys(state);
        }
        check.holds("short and long WAITS and NEVER were met: " + waits, waits.size() > 60 && waits.contains(Check.NEVER));
        check.end();
    }

    private static void waitIsAsPlayed(State state, int uneven) throws ReflectiveOperationException {
        for (int m = 0; m < MEMBERS; m++) {
            SpeakHall hall = state.hall();
            makeUneven(hall, uneven);
            int wait = hall.wait(m);
            boolean asks = hall.place(m, 0) >= 0;
            check.holds(state.name + ": wait(" + m + ") is a number or NEVER if it is in THE LIST for a SPEECH: " + wait,
                    asks == (wait >= 0 || wait == Check.NEVER));
            if (asks) {
                waits.add(wait);
                SpeakHall played = state.hall();
                makeUneven(played, uneven);
                check.due(state.name + ": wait(" + m + ") beside how it is played", wait, playUntil(played, m));
            }
        }
    }

    /** Some get much TIME and many SPEECHES, so that by KEYS 4 to 7 many short ones come ahead of their next one. */
    private static void makeUneven(SpeakHall hall, int limit) {
        if (limit == 0) {
            return;
        }
        hall.limit(0, 51 - limit);
        hall.noKeys();
        hall.key(9);
        for (int i = 0; i < 10; i++) {
            hall.yield();
            hall.ask(i % 3, 0);
            hall.begin();
            hall.tick(100);
        }
        hall.limit(0, limit);
        hall.noKeys();
        hall.key(4 + limit % 4);
        for (int m = 0; m < MEMBERS; m++) {
            hall.ask(m, 0);
        }
    }

    /** Nobody keeps THE FLOOR, nobody asks for anything but SPEECHES, and then they really speak, to the last TICK. */
    private static int playUntil(SpeakHall hall, int member) {
        while (hall.floor(0) >= 0) {
            hall.yield();
        }
        for (int m = 0; m < MEMBERS; m++) {
            hall.withdraw(m, 1);
            hall.withdraw(m, 2);
        }
        for (int ahead = 0; ahead < MOST_WAIT; ahead++) {
            int speaker = hall.begin();
            if (speaker == member) {
                return ahead;
            }
            hall.tick(100);
            hall.ask(speaker, 0);
        }
        return Check.NEVER;
    }

    private static List<Asking> list(State state) throws ReflectiveOperationException {
        SpeakHall limits = state.hall();
        int[] limit = {limits.limit(0, 1), limits.limit(1, 1), limits.limit(2, 1)};
        SpeakHall hall = state.hall();
        List<Asking> list = new ArrayList<>();
        for (int place = 0; hall.listed(place, false) >= 0; place++) {
            int member = hall.listed(place, false);
            int sort = hall.listed(place, true);
            list.add(new Asking(member, sort, limit[sort] * (hall.of(member, 0) == 3 ? 2 : 1)));
        }
        return list;
    }

    private static void theListIsAsPlaces(State state) throws ReflectiveOperationException {
        SpeakHall hall = state.hall();
        List<Asking> list = list(state);
        for (int place = 0; place < list.size(); place++) {
            Asking asking = list.get(place);
            check.due(state.name + ": place of " + asking, hall.place(asking.member, asking.sort), place);
            check.due(state.name + ": PRESENT in THE LIST, " + asking, hall.of(asking.member, 2), 1);
        }
        int asked = 0;
        for (int m = 0; m < MEMBERS; m++) {
            for (int sort = 0; sort < 3; sort++) {
                asked += hall.withdraw(m, sort) >= 0 ? 1 : 0;
            }
        }
        check.due(state.name + ": told(1) beside what was withdrawn", state.hall().told(1), asked);
        check.due(state.name + ": nothing is left", hall.told(1), 0);
    }

    private static void nextAndPointsAreOfTheList(State state) throws ReflectiveOperationException {
        List<Asking> list = list(state);
        SpeakHall hall = state.hall();
        int holder = hall.floor(0);
        int behind = hall.floor(3);
        Asking next = list.isEmpty() ? null : list.get(0);
        check.due(state.name + ": begin()", hall.begin(), holder >= 0 ? Check.BUSY : next == null ? Check.NONE : next.member);
        if (holder < 0 && next != null) {
            tookTheFloor(state, hall, next, 0);
        }
        SpeakHall cutting = state.hall();
        Asking point = list.stream().filter(a -> a.sort == 2).findFirst().orElse(null);
        boolean none = holder < 0 || point == null;
        check.due(state.name + ": cut()", cutting.cut(), none ? Check.NONE : behind == 4 ? Check.FULL : point.member);
        if (!none && behind < 4) {
            tookTheFloor(state, cutting, point, behind + 1);
            check.due(state.name + ": yield() gives it back", cutting.yield(), holder);
        }
    }

    private static void tookTheFloor(State state, SpeakHall hall, Asking asking, int behind) {
        check.due(state.name + ": who has it, " + asking, hall.floor(0), asking.member);
        check.due(state.name + ": for what, " + asking, hall.floor(1), asking.sort);
        check.due(state.name + ": LEFT, " + asking, hall.floor(2), asking.limit);
        check.due(state.name + ": BEHIND, " + asking, hall.floor(3), behind);
        check.due(state.name + ": its ASKING is gone, " + asking, hall.withdraw(asking.member, asking.sort), Check.NONE);
    }

    private static void fitsAreOfTheList(State state) throws ReflectiveOperationException {
        List<Asking> list = list(state);
        SpeakHall hall = state.hall();
        int together = 0;
        for (int n = 0; n < list.size(); n++) {
            int its = list.get(n).limit;
            if (together + its > 1000) {
                return;
            }
            check.due(state.name + ": fits one TICK short", hall.fits(together + its - 1, false), n);
            together += its;
            check.due(state.name + ": fits to the TICK", hall.fits(together, false), n + 1);
            check.due(state.name + ": nothing is to be skipped", hall.fits(together, true), n + 1);
            check.due(state.name + ": one is skipped", hall.fits(together - 1, true), n + laterIn(list, n + 1, its - 1));
        }
    }

    /** How many from a place on go into so many TICKS, each that does not being left out. */
    private static int laterIn(List<Asking> list, int place, int ticks) {
        int left = ticks;
        int n = 0;
        for (Asking asking : list.subList(place, list.size())) {
            if (asking.limit <= left) {
                left -= asking.limit;
                n++;
            }
        }
        return n;
    }

    private static void ticksAddUp(State state) throws ReflectiveOperationException {
        SpeakHall before = state.hall();
        SpeakHall together = state.hall();
        SpeakHall alone = state.hall();
        int n = 1 + Math.floorMod(state.name.hashCode(), 40);
        int held = together.tick(n);
        int heldAlone = 0;
        for (int i = 0; i < n; i++) {
            heldAlone += alone.tick(1);
        }
        check.due(state.name + ": tick(" + n + ") beside one after the other", held, heldAlone);
        check.due(state.name + ": TIME of all", timeOfAll(together) - timeOfAll(before), held);
        check.due(state.name + ": rows", together.told(3), alone.told(3));
        for (int what = 0; what < 4; what++) {
            check.due(state.name + ": floor(" + what + ")", together.floor(what), alone.floor(what));
        }
        for (int m = 0; m < together.told(0); m++) {
            check.due(state.name + ": TIME of " + m, together.of(m, 3), alone.of(m, 3));
            check.due(state.name + ": sum of " + m, together.sum(m, 0), alone.sum(m, 0));
        }
    }

    private static int timeOfAll(SpeakHall hall) {
        int all = 0;
        for (int d = 0; d < DELEGATIONS; d++) {
            all += hall.time(d);
        }
        return all;
    }

    private static void votesAreOfThosePresent(State state) throws ReflectiveOperationException {
        SpeakHall hall = state.hall();
        boolean open = hall.told(6) == 1;
        int may = 0;
        int[] said = new int[3];
        for (int m = 0; m < hall.told(0); m++) {
            int kind = hall.of(m, 0);
            boolean its = hall.of(m, 2) == 1 && (kind == 0 || kind == 2);
            may += its ? 1 : 0;
            int was = state.hall().say(m, 0);
            check.holds(state.name + ": say of " + m + " answered " + was, !open ? was == Check.NONE : its ? was >= 0 && was <= 2 : was == Check.KIND);
            if (was >= 0) {
                said[was]++;
            }
        }
        for (int v = 0; v < 3; v++) {
            check.due(state.name + ": votes(" + v + ")", hall.votes(v), open ? said[v] : Check.NONE);
        }
        int yes = said[1];
        int no = said[2];
        boolean[] passes = {yes > no, yes >= 2 * no && yes > 0, no == 0 && yes > 0};
        for (int need = 1; need <= 3; need++) {
            int closed = state.hall().close(need);
            check.due(state.name + ": close(" + need + ")", closed, !open ? Check.NONE : passes[need - 1] ? 1 : 0);
            if (open) {
                check.due(state.name + ": HANDS without doubt", hall.hands(need, yes, no, 0), closed);
            }
        }
        check.holds(state.name + ": who may says one of three", !open || said[0] + yes + no == may);
    }

    private static void fairnessIsOfTimes(State state) throws ReflectiveOperationException {
        SpeakHall hall = state.hall();
        int[] times = new int[DELEGATIONS];
        boolean[] there = new boolean[DELEGATIONS];
        for (int m = 0; m < hall.told(0); m++) {
            times[hall.of(m, 1)] += hall.of(m, 3);
            there[hall.of(m, 1)] = true;
        }
        List<Integer> of = new ArrayList<>();
        for (int d = 0; d < DELEGATIONS; d++) {
            check.due(state.name + ": time(" + d + ") beside its members", hall.time(d), times[d]);
            if (there[d]) {
                of.add(times[d]);
            }
        }
        of.sort(null);
        check.due(state.name + ": apart()", hall.apart(), of.isEmpty() ? 0 : of.get(of.size() - 1) - of.get(0));
        // In sorted order the one at place i is added i times and taken away once for each behind it.
        long gaps = 0;
        for (int i = 0; i < of.size(); i++) {
            gaps += (long) of.get(i) * (2 * i - of.size() + 1);
        }
        long under = (long) of.size() * of.stream().mapToInt(t -> t).sum();
        long above = hall.uneven(false);
        long below = hall.uneven(true);
        check.due(state.name + ": uneven, crosswise", above * (under == 0 ? 1 : under), gaps * below);
        check.due(state.name + ": uneven in lowest terms", BigInteger.valueOf(above).gcd(BigInteger.valueOf(below)).longValue(), 1);
        check.holds(state.name + ": uneven is 0 at least and below 1", above >= 0 && above < below);
    }

    private static void sumsAreOfMinutes(State state) throws ReflectiveOperationException {
        SpeakHall hall = state.hall();
        int latest = hall.told(5);
        int rows = hall.told(3);
        int[] first = new int[MEMBERS];
        int[] right = new int[MEMBERS];
        for (int i = 0; i < rows && rows <= 50; i++) {
            int member = hall.minutes(i, 0);
            right[member] += hall.minutes(i, 2);
            first[member] += hall.minutes(i, 3);
        }
        check.due(state.name + ": no row beyond", hall.minutes(rows, 0), Check.BEYOND);
        for (int m = 0; m < hall.told(0) && rows <= 50; m++) {
            check.due(state.name + ": sum as of 0", hall.sum(m, 0), first[m]);
            check.due(state.name + ": sum as of the latest", hall.sum(m, latest), right[m]);
            check.due(state.name + ": no count beyond", hall.sum(m, latest + 1), Check.BEYOND);
        }
    }

    /** KEYS that are read from a sheet order THE LIST as the same ones do that are put one by one. */
    private static void readIsAsKeys(State state) throws ReflectiveOperationException {
        Random random = new Random(state.name.hashCode());
        List<Integer> keys = new ArrayList<>(List.of(1, 2, 3, 4, 5, 6, 7, 8, 9));
        Collections.shuffle(keys, random);
        int n = random.nextInt(7);
        SpeakHall read = state.hall();
        SpeakHall put = state.hall();
        read.sheet(2, 16, 12);
        put.noKeys();
        for (int i = 0; i < n; i++) {
            read.put(2, i, keys.get(i));
            check.due(state.name + ": key", put.key(keys.get(i)), i + 1);
        }
        check.due(state.name + ": read", read.read(2), n);
        for (int place = 0; place <= 20; place++) {
            check.due(state.name + ": member by " + keys.subList(0, n), read.listed(place, false), put.listed(place, false));
            check.due(state.name + ": SORT by " + keys.subList(0, n), read.listed(place, true), put.listed(place, true));
        }
        check.due(state.name + ": told(2)", read.noKeys(), n);
    }
}
