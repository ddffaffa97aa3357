import java.nio.file.Files;
import java.nio.file.Path;
import java.util.ArrayList;
import java.util.LinkedHashMap;
import java.util.List;
import java.util.Map;
import java.util.regex.Matcher;
import java.util.regex.Pattern;

/**
 * Keeps the scripts that test the document sentence by sentence. A row whose answer is a finding is also looked at
 * beside a twin that had all the calls but that one: both must answer alike from there on.
 */
final class Bounds {
    private static final int MOST_CALLS = 512;
    private static final int MOST_TOLD = 60;

    private final Map<String, List<String>> claimed = new LinkedHashMap<>();
    private int asked = 0;
    private int wrong = 0;

    /** A sentence of the document, word by word, with runs that would go wrong if it were broken. */
    void sentence(String section, String sentence, String... scripts) {
        List<String> sentences = claimed.computeIfAbsent(section, s -> new ArrayList<>());
        if (!sentences.contains(sentence)) {
            sentences.add(sentence);
        }
        expect(section + ", \"" + sentence + "\" has a test", scripts.length > 0);
        for (String script : scripts) {
            run(section + ", \"" + sentence + "\"", Script.rows(script));
        }
    }

    private void run(String where, List<Script.Row> rows) {
        expect(where + ": an object is used for at most " + MOST_CALLS + " calls, not " + rows.size(), rows.size() <= MOST_CALLS);
        expect(where + ": an answer is due", rows.stream().anyMatch(row -> row.due() != null));
        SpeakHall hall = new SpeakHall();
        for (int i = 0; i < rows.size(); i++) {
            Script.Row row = rows.get(i);
            int got = Script.answer(hall, row.call());
            if (row.due() != null) {
                due(where + " in call " + (i + 1) + ": " + row.call(), got, row.due());
            }
            if (row.isRefused()) {
                changesNothing(where + " by call " + (i + 1) + ": " + row.call(), rows.subList(0, i), row.call());
            }
        }
    }

    private void changesNothing(String where, List<Script.Row> before, String refused) {
        int room = MOST_CALLS - before.size() - 2;
        for (List<String> part : parts(Probes.LOOKS, Math.max(room, 1))) {
            compare(where, before, refused, part);
        }
        for (List<String> acts : Probes.ACTS) {
            compare(where, before, refused, acts.subList(0, Math.max(0, Math.min(acts.size(), room))));
        }
    }

    private static List<List<String>> parts(List<String> calls, int most) {
        List<List<String>> parts = new ArrayList<>();
        for (int from = 0; from < calls.size(); from += most) {
            parts.add(calls.subList(from, Math.min(calls.size(), from + most)));
        }
        return parts;
    }

    private void compare(String where, List<Script.Row> before, String refused, List<String> probes) {
        SpeakHall hall = after(before);
        SpeakHall twin = after(before);
        Script.answer(hall, refused);
        due(where + " is counted once: told(4)", hall.told(4), twin.told(4) + 1);
        for (String probe : probes) {
            due(where + " changes nothing: " + probe, Script.answer(hall, probe), Script.answer(twin, probe));
        }
    }

    private static SpeakHall after(List<Script.Row> rows) {
        SpeakHall hall = new SpeakHall();
        for (Script.Row row : rows) {
            Script.answer(hall, row.call());
        }
        return hall;
    }

    void due(String what, int got, int want) {
        expect(what + " answered " + Script.named(got) + ", due is " + Script.named(want), got == want);
    }

    void expect(String what, boolean holds) {
        asked++;
        if (!holds) {
            wrong++;
            if (wrong <= MOST_TOLD) {
                System.out.println(what);
            }
        }
    }

    /** Nothing of what the document promises is left when all sentences with a test are taken away. */
    void everySentenceHasATest(Path document) throws java.io.IOException {
        Map<String, String> sections = sections(Files.readString(document));
        expect("35 promises, 7 points, findings, use: " + sections.keySet(), sections.size() == 44);
        for (Map.Entry<String, String> section : sections.entrySet()) {
            String rest = section.getValue();
            List<String> sentences = new ArrayList<>(claimed.getOrDefault(section.getKey(), List.of()));
            sentences.sort((a, b) -> b.length() - a.length());
            for (String sentence : sentences) {
                expect(section.getKey() + " says \"" + sentence + "\"", rest.contains(sentence));
                rest = rest.replaceFirst(Pattern.quote(sentence), " ");
            }
            expect(section.getKey() + " has no test of \"" + rest.trim() + "\"", rest.isBlank());
        }
        for (String section : claimed.keySet()) {
            expect("the document has " + section, sections.containsKey(section));
        }
    }

    private static Map<String, String> sections(String document) {
        Map<String, String> sections = new LinkedHashMap<>();
        String text = document.replace("```text", " ").replace("```java", " ").replace("```", " ");
        Matcher use = Pattern.compile("(?m)^An object is used .*$").matcher(text);
        if (use.find()) {
            sections.put("Use", use.group().trim());
        }
        String terms = text.substring(text.indexOf("## Terms") + 8, text.indexOf("Ahead of the calls"));
        String[] points = terms.split("(?m)^\\d\\. ");
        for (int i = 0; i < points.length; i++) {
            sections.put(i == 0 ? "Findings" : "Point " + i, points[i].replaceAll("\\s+", " ").trim());
        }
        Matcher promise = Pattern.compile("(?ms)^## Promise (\\d+): [^\n]*\n\\s*`[^`]*`: (.*?)(?=^## )").matcher(text);
        while (promise.find()) {
            sections.put("Promise " + promise.group(1), promise.group(2).replaceAll("\\s+", " ").trim());
        }
        return sections;
    }

    void end() {
        System.out.println(wrong == 0 ? asked + " answers are as due" : wrong + " of " + asked + " answers are not as due");
        if (wrong != 0) {
            System.exit(1);
        }
    }
}
