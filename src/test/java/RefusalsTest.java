import java.util.TreeSet;

/**
 * FINDINGS: an act that answers one changes nothing. So a run of calls without those that were refused has the same
 * answers as with them. Beside that, each act answers the findings that the document names for it, and no others.
 */
public final class RefusalsTest {
    private static final int RUNS = 1500;
    private static final int LEAST_OTHER = -1;
    private static final String[] NAMED = {
        "member BEYOND", "member FULL", "as BEYOND", "as KIND", "present BEYOND", "of BEYOND", "time BEYOND", "ask BEYOND", "ask SIZE", "ask FULL",
        "withdraw BEYOND", "withdraw NONE", "key BEYOND", "key SIZE", "key FULL", "listed NONE", "place BEYOND", "place NONE", "wait BEYOND", "wait NONE",
        "wait NEVER", "fits BEYOND", "begin BUSY", "begin NONE", "cut NONE", "cut FULL", "tick BEYOND", "yield NONE", "floor BEYOND", "floor NONE",
        "limit BEYOND", "vote BUSY", "say BEYOND", "say NONE", "say KIND", "votes BEYOND", "votes NONE", "close BEYOND", "close NONE", "hands BEYOND",
        "minutes BEYOND", "right BEYOND", "right FULL", "sum BEYOND", "sheet BEYOND", "sheet SIZE", "put BEYOND", "put MISSING", "copy BEYOND", "copy MISSING",
        "copy KIND", "read BEYOND", "read MISSING", "read SIZE", "read FULL", "told BEYOND",
    };

    public static void main(String[] args) throws Exception {
        Check check = new Check();
        TreeSet<String> seen = new TreeSet<>();
        for (int seed = 0; seed < RUNS; seed++) {
            SpeakHall hall = new SpeakHall();
            SpeakHall unrefused = new SpeakHall();
            int refused = 0;
            int n = 0;
            for (RandomCalls.Call call : RandomCalls.run(seed)) {
                n++;
                int got = call.on(hall);
                if (got < -99999) {
                    refused++;
                    seen.add(call.method().getName() + " " + Script.named(got));
                    continue;
                }
                boolean counts = call.method().getName().equals("told") && call.with()[0].equals(4);
                check.due("seed " + seed + ", call " + n + ", " + call + " without the refused ones", got, counts ? refused : call.on(unrefused));
                check.holds(call + " answers a finding or " + LEAST_OTHER + " at least: " + got, got >= LEAST_OTHER);
            }
        }
        for (String finding : NAMED) {
            check.holds("the runs met " + finding, seen.remove(finding));
        }
        check.holds("no findings but those that the document names: " + seen, seen.isEmpty());
        check.end();
    }
}
