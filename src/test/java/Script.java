import java.lang.reflect.Method;
import java.lang.reflect.Modifier;
import java.util.ArrayList;
import java.util.HashMap;
import java.util.List;
import java.util.Map;
import java.util.function.IntFunction;
import java.util.regex.Matcher;
import java.util.regex.Pattern;

/** Runs of calls written as text: "member(0, 0) = 0; ask(0, 3) = BEYOND; begin()", each with the answer due, or without. */
final class Script {
    /** One call; due is null where the script tells no answer. */
    record Row(String call, Integer due) {
        boolean isRefused() {
            return due != null && due < -99999;
        }
    }

    private record Call(Method method, Object[] with) { }

    private static final Pattern ROW = Pattern.compile("((\\w+)\\(([^)]*)\\))(?:\\s*=\\s*(\\S+))?");
    private static final Map<String, Integer> FINDINGS = Map.of("BEYOND", -100001, "MISSING", -100002, "SIZE", -100003, "KIND", -100004,
            "FULL", -100005, "NONE", -100006, "BUSY", -100007, "NEVER", -100008);
    private static final Map<String, Method> CALLS = calls();
    private static final Map<String, Call> PARSED = new HashMap<>();

    private Script() { }

    private static Map<String, Method> calls() {
        Map<String, Method> calls = new HashMap<>();
        for (Method m : SpeakHall.class.getDeclaredMethods()) {
            if (Modifier.isPublic(m.getModifiers())) {
                calls.put(m.getName(), m);
            }
        }
        return calls;
    }

    static List<Row> rows(String script) {
        List<Row> rows = new ArrayList<>();
        for (String text : script.split(";")) {
            if (text.isBlank()) {
                continue;
            }
            Matcher row = ROW.matcher(text.trim());
            if (!row.matches()) {
                throw new IllegalArgumentException("no row of a script: " + text);
            }
            String due = row.group(4);
            rows.add(new Row(row.group(1), due == null ? null : FINDINGS.containsKey(due) ? FINDINGS.get(due) : Integer.valueOf(due)));
        }
        return rows;
    }

    /** What the hall answers to a call like "ask(0, 2)". */
    static int answer(SpeakHall hall, String call) {
        Call parsed = PARSED.computeIfAbsent(call, Script::parse);
        try {
            return (int) parsed.method().invoke(hall, parsed.with());
        } catch (ReflectiveOperationException e) {
            throw new IllegalStateException(call + " threw", e);
        }
    }

    private static Call parse(String call) {
        Matcher row = ROW.matcher(call);
        if (!row.matches() || !CALLS.containsKey(row.group(2))) {
            throw new IllegalArgumentException("no call: " + call);
        }
        String[] texts = row.group(3).isBlank() ? new String[0] : row.group(3).split(",");
        Object[] with = new Object[texts.length];
        for (int i = 0; i < with.length; i++) {
            String text = texts[i].trim();
            with[i] = text.equals("true") || text.equals("false") ? (Object) Boolean.valueOf(text) : (Object) Integer.valueOf(text);
        }
        return new Call(CALLS.get(row.group(2)), with);
    }

    static String named(int answer) {
        for (Map.Entry<String, Integer> finding : FINDINGS.entrySet()) {
            if (finding.getValue() == answer) {
                return finding.getKey();
            }
        }
        return String.valueOf(answer);
    }

    /** The rows that are made from 0, 1, .. (n of them). */
    static String times(int n, IntFunction<String> rows) {
        StringBuilder text = new StringBuilder();
        for (int i = 0; i < n; i++) {
            text.append(rows.apply(i)).append("; ");
        }
        return text.toString();
    }

    /** One row for each of some values, which stands where the row says #. */
    static String each(String row, Object... values) {
        StringBuilder text = new StringBuilder();
        for (Object value : values) {
            text.append(row.replace("#", value.toString())).append("; ");
        }
        return text.toString();
    }
}
