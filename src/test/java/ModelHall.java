import java.util.ArrayList;
import java.util.Comparator;
import java.util.HashSet;
import java.util.List;
import java.util.TreeMap;

/**
 * The document once more, written for clearness alone and in another way than the class: what was done is kept
 * as a log, and TIME, SPEECHES and the like are counted from it each time.
 */
public final class ModelHall {
    private static final class Person {
        final int number;
        final int kind;
        final int delegation;
        boolean here = true;
        int says = 0;

        Person(int number, int kind, int delegation) {
            this.number = number;
            this.kind = kind;
            this.delegation = delegation;
        }

        boolean guest() {
            return kind == 1 || kind == 3;
        }
    }

    private record Asking(Person who, int sort) { }

    private static final class Holding {
        final Asking asking;
        int left;
        int had = 0;

        Holding(Asking asking, int left) {
            this.asking = asking;
            this.left = left;
        }
    }

    private record Row(Asking asking, int first, TreeMap<Integer, Integer> rights) {
        int asOf(int k) {
            return rights.floorEntry(k) == null ? first : rights.floorEntry(k).getValue();
        }
    }

    private final List<Person> people = new ArrayList<>();
    private final List<Asking> askings = new ArrayList<>();
    private final List<Integer> keys = new ArrayList<>();
    private final List<Person> tickLog = new ArrayList<>();
    private final List<Asking> takeLog = new ArrayList<>();
    private final List<Holding> holdings = new ArrayList<>();
    private final List<Row> rows = new ArrayList<>();
    private final int[] limits = {10, 4, 2};
    private final Object[] sheets = new Object[4];
    private boolean open = false;
    private int rights = 0;
    private int findings = 0;

    private int f(int finding) {
        findings++;
        return finding;
    }

    private boolean no(int member) {
        return member < 0 || member >= people.size();
    }

    private int timeOf(Person p) {
        return (int) tickLog.stream().filter(q -> q == p).count();
    }

    private int timeOfDelegation(int d) {
        return (int) tickLog.stream().filter(q -> q.delegation == d).count();
    }

    private int speechesOf(Person p) {
        return (int) takeLog.stream().filter(a -> a.who == p && a.sort == 0).count();
    }

    private Comparator<Asking> byKey(int key) {
        int latest = takeLog.isEmpty() ? -1 : takeLog.get(takeLog.size() - 1).who.delegation;
        return switch (key) {
            case 1 -> Comparator.comparing(a -> a.sort != 2);
            case 2 -> Comparator.comparing(a -> a.sort != 1);
            case 3 -> Comparator.comparing(a -> speechesOf(a.who) > 0);
            case 4 -> Comparator.comparing(a -> speechesOf(a.who));
            case 5 -> Comparator.comparing(a -> timeOf(a.who));
            case 6 -> Comparator.comparing(a -> timeOfDelegation(a.who.delegation));
            case 7 -> Comparator.comparing(a -> a.who.delegation == latest);
            case 8 -> Comparator.comparing(a -> a.who.guest());
            default -> Comparator.comparing(a -> a.who.kind != 2);
        };
    }

    private List<Asking> list() {
        List<Asking> list = new ArrayList<>(askings.stream().filter(a -> a.who.here).toList());
        for (int i = keys.size() - 1; i >= 0; i--) {
            list.sort(byKey(keys.get(i)));
        }
        return list;
    }

    private Asking asked(int member, int sort) {
        return askings.stream().filter(a -> a.who.number == member && a.sort == sort).findFirst().orElse(null);
    }

    private int limitOf(Asking a) {
        return limits[a.sort] * (a.who.kind == 3 ? 2 : 1);
    }

    private Holding top() {
        return holdings.isEmpty() ? null : holdings.get(holdings.size() - 1);
    }

    private int takes(Asking a) {
        askings.remove(a);
        takeLog.add(a);
        holdings.add(new Holding(a, limitOf(a)));
        return a.who.number;
    }

    private void ends() {
        Holding h = holdings.remove(holdings.size() - 1);
        rows.add(new Row(h.asking, h.had, new TreeMap<>()));
        if (rows.size() > 100) {
            rows.remove(0);
        }
    }

    public int member(int kind, int delegation) {
        if (kind < 0 || kind > 3 || delegation < 0 || delegation > 4) {
            return f(-100001);
        }
        if (people.size() == 10) {
            return f(-100005);
        }
        people.add(new Person(people.size(), kind, delegation));
        return people.size() - 1;
    }

    public int as(int member, int kind) {
        if (no(member) || kind < 0 || kind > 3) {
            return f(-100001);
        }
        int its = people.get(member).kind;
        boolean is = kind == 0 || its == kind || its == 3 && kind == 1;
        return is ? member : f(-100004);
    }

    public int present(int member, boolean is) {
        if (no(member)) {
            return f(-100001);
        }
        Person p = people.get(member);
        int changed = p.here ^ is ? 1 : 0;
        p.here = is;
        return changed;
    }

    public int of(int member, int what) {
        if (no(member) || what < 0 || what > 4) {
            return f(-100001);
        }
        Person p = people.get(member);
        return new int[] {p.kind, p.delegation, p.here ? 1 : 0, timeOf(p), speechesOf(p)}[what];
    }

    public int time(int delegation) {
        return delegation < 0 || delegation > 4 ? f(-100001) : timeOfDelegation(delegation);
    }

    public int ask(int member, int sort) {
        if (no(member) || sort < 0 || sort > 2) {
            return f(-100001);
        }
        if (asked(member, sort) != null) {
            return f(-100003);
        }
        if (askings.size() == 20) {
            return f(-100005);
        }
        askings.add(new Asking(people.get(member), sort));
        return askings.size();
    }

    public int withdraw(int member, int sort) {
        if (no(member) || sort < 0 || sort > 2) {
            return f(-100001);
        }
        return askings.remove(asked(member, sort)) ? askings.size() : f(-100006);
    }

    public int key(int key) {
        if (key < 1 || key > 9) {
            return f(-100001);
        }
        if (keys.contains(key)) {
            return f(-100003);
        }
        if (keys.size() == 6) {
            return f(-100005);
        }
        keys.add(key);
        return keys.size();
    }

    public int noKeys() {
        int n = keys.size();
        keys.clear();
        return n;
    }

    public int listed(int place, boolean sort) {
        List<Asking> list = list();
        if (place < 0 || place >= list.size()) {
            return f(-100006);
        }
        return sort ? list.get(place).sort : list.get(place).who.number;
    }

    public int place(int member, int sort) {
        if (no(member) || sort < 0 || sort > 2) {
            return f(-100001);
        }
        int at = list().indexOf(asked(member, sort));
        return at < 0 ? f(-100006) : at;
    }

    /** Really plays it, and takes it all back then. */
    public int wait(int member) {
        if (no(member)) {
            return f(-100001);
        }
        Asking its = asked(member, 0);
        if (its == null || !its.who.here) {
            return f(-100006);
        }
        List<Asking> askingsThen = new ArrayList<>(askings);
        int takesThen = takeLog.size();
        int ticksThen = tickLog.size();
        int ahead = 0;
        while (ahead < 100) {
            Asking first = list().stream().filter(a -> a.sort == 0).findFirst().get();
            if (first == its) {
                break;
            }
            askings.remove(first);
            takeLog.add(first);
            for (int i = 0; i < limitOf(first); i++) {
                tickLog.add(first.who);
            }
            askings.add(new Asking(first.who, 0));
            ahead++;
        }
        askings.clear();
        askings.addAll(askingsThen);
        takeLog.subList(takesThen, takeLog.size()).clear();
        tickLog.subList(ticksThen, tickLog.size()).clear();
        return ahead == 100 ? f(-100008) : ahead;
    }

    public int fits(int t, boolean skipping) {
        if (t < 0 || t > 1000) {
            return f(-100001);
        }
        int together = 0;
        int n = 0;
        for (Asking a : list()) {
            if (together + limitOf(a) > t) {
                if (!skipping) {
                    break;
                }
                continue;
            }
            together += limitOf(a);
            n++;
        }
        return n;
    }

    public int begin() {
        if (top() != null) {
            return f(-100007);
        }
        List<Asking> list = list();
        return list.isEmpty() ? f(-100006) : takes(list.get(0));
    }

    public int cut() {
        Asking point = list().stream().filter(a -> a.sort == 2).findFirst().orElse(null);
        if (top() == null || point == null) {
            return f(-100006);
        }
        return holdings.size() == 5 ? f(-100005) : takes(point);
    }

    public int tick(int n) {
        if (n < 1 || n > 100) {
            return f(-100001);
        }
        int held = 0;
        for (int i = 0; i < n; i++) {
            if (top() != null) {
                held++;
                tickLog.add(top().asking.who);
                top().had++;
                top().left--;
                if (top().left == 0) {
                    ends();
                }
            }
        }
        return held;
    }

    public int yield() {
        if (top() == null) {
            return f(-100006);
        }
        ends();
        return top() == null ? -1 : top().asking.who.number;
    }

    public int floor(int what) {
        if (what < 0 || what > 3) {
            return f(-100001);
        }
        if (what == 3) {
            return holdings.isEmpty() ? 0 : holdings.size() - 1;
        }
        if (top() == null) {
            return f(-100006);
        }
        return what == 0 ? top().asking.who.number : what == 1 ? top().asking.sort : top().left;
    }

    public int limit(int sort, int v) {
        if (sort < 0 || sort > 2 || v < 1 || v > 50) {
            return f(-100001);
        }
        int was = limits[sort];
        limits[sort] = v;
        return was;
    }

    public int vote() {
        if (open) {
            return f(-100007);
        }
        open = true;
        people.forEach(p -> p.says = 0);
        return 1;
    }

    public int say(int member, int v) {
        if (no(member) || v < 0 || v > 2) {
            return f(-100001);
        }
        if (!open) {
            return f(-100006);
        }
        Person p = people.get(member);
        if (!p.here || p.guest()) {
            return f(-100004);
        }
        int said = p.says;
        p.says = v;
        return said;
    }

    private int saying(int v) {
        return (int) people.stream().filter(p -> p.here && !p.guest() && p.says == v).count();
    }

    public int votes(int v) {
        if (v < 0 || v > 2) {
            return f(-100001);
        }
        return open ? saying(v) : f(-100006);
    }

    private static boolean passes(int need, int yes, int no) {
        return need == 1 ? yes > no : need == 2 ? 3 * yes >= 2 * (yes + no) && yes > 0 : no == 0 && yes > 0;
    }

    public int close(int need) {
        if (need < 1 || need > 3) {
            return f(-100001);
        }
        if (!open) {
            return f(-100006);
        }
        open = false;
        return passes(need, saying(1), saying(2)) ? 1 : 0;
    }

    public int hands(int need, int a, int b, int e) {
        if (need < 1 || need > 3 || a < 0 || a > 1000 || b < 0 || b > 1000 || e < 0 || e > 100) {
            return f(-100001);
        }
        HashSet<Boolean> seen = new HashSet<>();
        for (int yes = a - e; yes <= a + e; yes++) {
            for (int no = b - e; no <= b + e; no++) {
                if (yes >= 0 && no >= 0) {
                    seen.add(passes(need, yes, no));
                }
            }
        }
        return seen.size() == 2 ? 2 : seen.contains(true) ? 1 : 0;
    }

    private List<Integer> times() {
        return people.stream().map(p -> p.delegation).distinct().map(this::timeOfDelegation).toList();
    }

    public int apart() {
        List<Integer> times = times();
        return times.isEmpty() ? 0 : times.stream().max(Integer::compare).get() - times.stream().min(Integer::compare).get();
    }

    public int uneven(boolean below) {
        List<Integer> times = times();
        int gaps = 0;
        for (int a : times) {
            for (int b : times) {
                gaps += a > b ? a - b : 0;
            }
        }
        int under = times.size() * tickLog.size();
        if (under == 0) {
            return below ? 1 : 0;
        }
        int divisor = java.math.BigInteger.valueOf(gaps).gcd(java.math.BigInteger.valueOf(under)).intValue();
        return (below ? under : gaps) / divisor;
    }

    public int minutes(int i, int what) {
        if (i < 0 || i >= rows.size() || what < 0 || what > 3) {
            return f(-100001);
        }
        Row row = rows.get(i);
        return new int[] {row.asking.who.number, row.asking.sort, row.asOf(rights), row.first}[what];
    }

    public int right(int i, int ticks) {
        if (i < 0 || i >= rows.size() || ticks < 0 || ticks > 200) {
            return f(-100001);
        }
        if (rights == 40) {
            return f(-100005);
        }
        rows.get(i).rights.put(++rights, ticks);
        return rights;
    }

    public int sum(int member, int k) {
        if (no(member) || k < 0 || k > rights) {
            return f(-100001);
        }
        return rows.stream().filter(r -> r.asking.who.number == member).mapToInt(r -> r.asOf(k)).sum();
    }

    private boolean noSheet(int s) {
        return s < 0 || s > 3;
    }

    private int numberAt(Object sheet, int i) {
        return ((Number) java.lang.reflect.Array.get(sheet, i)).intValue();
    }

    private int length(Object sheet) {
        return java.lang.reflect.Array.getLength(sheet);
    }

    private void store(Object sheet, int i, int v) {
        if (sheet instanceof byte[] b) {
            b[i] = (byte) v;
        } else if (sheet instanceof short[] h) {
            h[i] = (short) v;
        } else {
            ((int[]) sheet)[i] = v;
        }
    }

    public int sheet(int s, int bits, int n) {
        if (noSheet(s) || bits != 0 && bits != 8 && bits != 16 && bits != 32) {
            return f(-100001);
        }
        if (n < 0) {
            return f(-100003);
        }
        if (n > 12) {
            return f(-100001);
        }
        sheets[s] = bits == 0 ? null : bits == 8 ? new byte[n] : bits == 16 ? new short[n] : new int[n];
        return bits == 0 ? 0 : n;
    }

    public int put(int s, int i, int v) {
        if (noSheet(s)) {
            return f(-100001);
        }
        if (sheets[s] == null) {
            return f(-100002);
        }
        if (i < 0 || i >= length(sheets[s])) {
            return f(-100001);
        }
        store(sheets[s], i, v);
        return 0;
    }

    public int copy(int s, int from, int t, int to, int n) {
        if (noSheet(s) || noSheet(t)) {
            return f(-100001);
        }
        if (sheets[s] == null || sheets[t] == null) {
            return f(-100002);
        }
        if (sheets[s].getClass() != sheets[t].getClass()) {
            return f(-100004);
        }
        if (from < 0 || to < 0 || n < 0 || (long) from + n > length(sheets[s]) || (long) to + n > length(sheets[t])) {
            return f(-100001);
        }
        int[] taken = new int[n];
        for (int i = 0; i < n; i++) {
            taken[i] = numberAt(sheets[s], from + i);
        }
        for (int i = 0; i < n; i++) {
            store(sheets[t], to + i, taken[i]);
        }
        return n;
    }

    public int read(int s) {
        if (noSheet(s)) {
            return f(-100001);
        }
        if (sheets[s] == null) {
            return f(-100002);
        }
        List<Integer> read = new ArrayList<>();
        for (int i = 0; i < length(sheets[s]) && numberAt(sheets[s], i) != 0; i++) {
            read.add(numberAt(sheets[s], i));
        }
        if (read.stream().anyMatch(k -> k < 1 || k > 9)) {
            return f(-100001);
        }
        if (new HashSet<>(read).size() < read.size()) {
            return f(-100003);
        }
        if (read.size() > 6) {
            return f(-100005);
        }
        keys.clear();
        keys.addAll(read);
        return read.size();
    }

    public int told(int what) {
        if (what < 0 || what > 6) {
            return f(-100001);
        }
        return new int[] {people.size(), askings.size(), keys.size(), rows.size(), findings, rights, open ? 1 : 0}[what];
    }
}
