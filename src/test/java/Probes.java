import java.util.ArrayList;
import java.util.Arrays;
import java.util.List;

/** Calls whose answers together show all that an object holds. */
final class Probes {
    /** These change nothing (but the count of findings), so that they may be asked in parts. */
    static final List<String> LOOKS = looks();
    /** Each of these is a run of its own that shows by acts what no look shows. */
    static final List<List<String>> ACTS = acts();

    private Probes() { }

    private static List<String> looks() {
        List<String> calls = new ArrayList<>();
        add(calls, "told(#)", 0, 1, 2, 3, 5, 6);
        for (int m = 0; m < 10; m++) {
            add(calls, "of(" + m + ", #)", 0, 1, 2, 3, 4);
            add(calls, "place(" + m + ", #)", 0, 1, 2);
            add(calls, "wait(#)", m);
            add(calls, "sum(" + m + ", #)", 0, 1, 2, 39, 40);
        }
        add(calls, "time(#)", 0, 1, 2, 3, 4);
        for (int place = 0; place <= 20; place++) {
            add(calls, "listed(" + place + ", #)", false, true);
        }
        for (int t : new int[] {0, 1, 5, 10, 20, 40, 80, 1000}) {
            add(calls, "fits(" + t + ", #)", false, true);
        }
        add(calls, "floor(#)", 0, 1, 2, 3);
        add(calls, "votes(#)", 0, 1, 2);
        add(calls, "apart()", "");
        add(calls, "uneven(#)", false, true);
        for (int row : new int[] {0, 1, 2, 3, 4, 98, 99, 100}) {
            add(calls, "minutes(" + row + ", #)", 0, 1, 2, 3);
        }
        return calls;
    }

    private static List<List<String>> acts() {
        List<List<String>> acts = new ArrayList<>();
        List<String> limits = new ArrayList<>();
        add(limits, "limit(#, 1)", 0, 1, 2);
        add(limits, "say(#, 0)", 0, 1, 2, 3, 4, 5, 6, 7, 8, 9);
        add(limits, "present(#, true)", 0, 1, 2, 3, 4, 5, 6, 7, 8, 9);
        add(limits, "votes(#)", 0, 1, 2);
        acts.add(limits);
        List<String> behind = new ArrayList<>();
        for (int i = 0; i < 6; i++) {
            behind.addAll(List.of("floor(0)", "floor(1)", "floor(2)", "yield()"));
        }
        for (int row = 0; row < 9; row++) {
            add(behind, "minutes(" + row + ", #)", 0, 1, 2, 3);
        }
        acts.add(behind);
        List<String> keys = new ArrayList<>();
        add(keys, "key(#)", 1, 2, 3, 4, 5, 6, 7, 8, 9);
        add(keys, "noKeys()", "");
        acts.add(keys);
        acts.add(orderBy("key(7)"));
        acts.add(orderBy("noKeys()"));
        acts.add(new ArrayList<>(List.of("member(0, 0)", "vote()", "tick(100)", "tick(100)", "begin()", "tick(1)", "cut()", "floor(0)")));
        for (int s = 0; s < 4; s++) {
            for (int i = 0; i <= 12; i++) {
                acts.add(numberOf(s, i));
            }
        }
        return acts;
    }

    private static List<String> orderBy(String key) {
        List<String> calls = new ArrayList<>(List.of("noKeys()", key));
        add(calls, "present(#, true)", 0, 1, 2, 3, 4, 5, 6, 7, 8, 9);
        for (int place = 0; place <= 20; place++) {
            add(calls, "listed(" + place + ", #)", false, true);
        }
        return calls;
    }

    /**
     * A number of a sheet goes to another sheet of as many bits alone, is read there, and is told by the KEY that is there
     * then. A run for each number, and no KEY too many in it: what is refused here might itself change a sheet that is broken.
     */
    private static List<String> numberOf(int s, int i) {
        List<String> calls = new ArrayList<>();
        for (int step = 1; step <= 3; step++) {
            int other = (s + step) % 4;
            calls.add("sheet(" + other + ", " + (4 << step) + ", 1)");
            calls.add("copy(" + s + ", " + i + ", " + other + ", 0, 1)");
        }
        for (int step = 1; step <= 3; step++) {
            int other = (s + step) % 4;
            for (int key = 1; key <= 9; key += 3) {
                calls.add("read(" + other + ")");
                add(calls, "key(#)", key, key + 1, key + 2);
            }
        }
        return calls;
    }

    private static void add(List<String> calls, String row, Object... values) {
        calls.addAll(Arrays.asList(Script.each(row, values).split("; ")));
    }
}
