/** Runs of calls that many scripts begin with. */
final class Halls {
    static final int LEAST = Integer.MIN_VALUE;
    static final int MOST = Integer.MAX_VALUE;

    /**
     * A hall with something of everything: 7 members of all kinds and DELEGATIONS (5 is away), 6 ASKINGS, 3 KEYS, 3 rows
     * of MINUTES PUT RIGHT 3 times, member 1 on THE FLOOR for a POINT with 4 BEHIND, THE VOTE open, and 3 SHEETS.
     */
    static final String RICH = "member(0, 0); member(1, 1); member(2, 2); member(3, 3); member(0, 0); member(2, 4); member(0, 1);"
            + "ask(0, 0); begin(); tick(4); yield(); ask(2, 0); begin(); tick(10); ask(3, 1); begin(); tick(3); yield();"
            + "right(0, 7); right(1, 9); right(0, 5); key(3); key(7); key(9);"
            + "ask(4, 0); ask(0, 1); ask(1, 2); ask(5, 0); ask(2, 2); ask(6, 1); ask(3, 0); ask(6, 2); present(5, false);"
            + "begin(); tick(2); cut(); tick(1); vote(); say(0, 1); say(4, 2); say(2, 1); limit(1, 6);"
            + "sheet(0, 8, 4); put(0, 0, 5); put(0, 1, 2); put(0, 2, 9); sheet(1, 16, 3); put(1, 0, 1); put(1, 1, 4); put(1, 2, 6);"
            + "sheet(2, 8, 12); put(2, 0, 7); put(2, 1, 8); put(2, 11, 3);";

    private Halls() { }

    /** So many MEMBERS, of the DELEGATIONS in turn. */
    static String members(int n) {
        return Script.times(n, m -> "member(0, " + m % 5 + ")");
    }

    /** So many ASKINGS: all SORTS of member 0, then of 1, and on. */
    static String askings(int n) {
        return Script.times(n, i -> "ask(" + i / 3 + ", " + i % 3 + ")");
    }

    /** A member has THE FLOOR for a SPEECH, alone, for so many TICKS (1 to 9 at the first LIMIT), and yields. */
    static String speech(int member, int ticks) {
        return "ask(" + member + ", 0); begin(); tick(" + ticks + "); yield();";
    }

    /** THE FLOOR is had by member 0 for a SPEECH, and members 1, 2, .. have cut in one after the other. */
    static String cuts(int n) {
        return "ask(0, 0); begin();" + Script.times(n, i -> "ask(" + (i + 1) + ", 2); cut()");
    }

    /** Rows of MINUTES, five by each 11 calls: of members 4, 3, 2, 1 for POINTS of 2 TICKS and of 0 for a SPEECH of 10. */
    static String fiveRows(int times) {
        return Script.times(times, i -> cuts(4) + "tick(100)");
    }
}
