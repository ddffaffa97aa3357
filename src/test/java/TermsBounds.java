/** What the document says ahead of its promises: how long an object is used, FINDINGS, and the points 1 to 7. */
final class TermsBounds {
    private static final String FLOOR_AND_POINT = "member(0, 0); member(0, 1); ask(0, 0); begin(); ask(1, 2);";

    private TermsBounds() { }

    static void all(Bounds b) {
        use(b);
        findings(b);
        members(b);
        askings(b);
        rule(b);
        floor(b);
        endings(b);
        waits(b);
        fits(b);
        votes(b);
        uneven(b);
        minutes(b);
        sheets(b);
    }

    private static void use(Bounds b) {
        b.sentence("Use", "An object is used for at most 512 calls after it has been made; what later calls answer is free.",
                Script.times(511, i -> "told(7)") + "told(4) = 511",
                "member(3, 0); member(0, 1); limit(0, 50);" + Script.times(169, i -> "ask(0, 0); begin(); tick(100)") + "of(0, 3) = 16900; time(0) = 16900",
                "member(3, 0); member(0, 1); limit(0, 50);" + Script.times(168, i -> "ask(0, 0); begin(); tick(100)")
                        + "apart() = 16800; uneven(false) = 1; uneven(true) = 2; sum(0, 0) = 10000; of(0, 4) = 168",
                Halls.members(5) + Halls.fiveRows(46) + "minutes(99, 0) = 0",
                Script.times(255, i -> "member(0, 0); ask(0, 0)") + "told(0) = 10; told(1) = 1");
    }

    private static void findings(Bounds b) {
        b.sentence("Findings", "FINDINGS are answers below -99999: -100001 BEYOND, -100002 MISSING, -100003 SIZE, -100004 KIND, -100005 FULL, -100006 NONE, -100007 BUSY, -100008 NEVER.",
                "of(0, 0) = -100001; read(0) = -100002; sheet(0, 8, -1) = -100003; member(0, 0); as(0, 1) = -100004; begin() = -100006; vote(); vote() = -100007;"
                        + "member(2, 0); key(9); ask(0, 0); ask(1, 0); wait(0) = -100008; told(4) = 7",
                Halls.members(10) + "member(0, 0) = -100005; told(4) = 1");
        b.sentence("Findings", "Each act tells its findings in the order in which they are asked; an act that answers a finding changes nothing.",
                Halls.members(10) + "member(4, 4) = BEYOND; member(3, 5) = BEYOND; member(3, 4) = FULL",
                Halls.members(7) + Halls.askings(20) + "ask(7, 0) = BEYOND; ask(0, 3) = BEYOND; ask(0, 0) = SIZE; ask(6, 2) = FULL; withdraw(7, 3) = BEYOND; withdraw(6, 2) = NONE",
                Script.times(6, i -> "key(" + (i + 1) + ")") + "key(10) = BEYOND; key(6) = SIZE; key(7) = FULL",
                "member(0, 0); member(2, 0); key(9); ask(0, 0); ask(1, 0); present(0, false); place(0, 3) = BEYOND; place(0, 0) = NONE; wait(2) = BEYOND; wait(0) = NONE; present(0, true); wait(0) = NEVER",
                "member(0, 0); ask(0, 0); begin(); begin() = BUSY; tick(10); begin() = NONE; floor(4) = BEYOND; floor(0) = NONE",
                Halls.members(5) + Halls.cuts(4) + "cut() = NONE; ask(0, 2); cut() = FULL",
                "member(1, 0); say(0, 3) = BEYOND; say(1, 0) = BEYOND; say(0, 1) = NONE; votes(3) = BEYOND; votes(1) = NONE; close(4) = BEYOND; close(1) = NONE; vote(); say(0, 3) = BEYOND; say(0, 1) = KIND",
                "member(0, 0);" + Halls.speech(0, 1) + Script.times(40, i -> "right(0, 1)") + "right(1, 1) = BEYOND; right(0, 201) = BEYOND; right(0, 1) = FULL",
                "sheet(4, 8, -1) = BEYOND; sheet(0, 9, -1) = BEYOND; sheet(0, 8, -1) = SIZE; put(4, 0, 0) = BEYOND; put(0, 9, 0) = MISSING; copy(0, 0, 4, 0, 0) = BEYOND; copy(0, 9, 1, 9, 9) = MISSING;"
                        + "sheet(0, 8, 8); sheet(1, 16, 1); put(0, 9, 0) = BEYOND; copy(0, 9, 1, 9, 9) = KIND; copy(0, 0, 0, 0, 9) = BEYOND; read(4) = BEYOND; read(2) = MISSING",
                "sheet(0, 8, 8);" + Script.each("put(0, #, 1)", 0, 1, 2, 3, 4, 5, 6, 7) + "put(0, 7, 10); read(0) = BEYOND; put(0, 7, 2); read(0) = SIZE;" + Script.times(8, i -> "put(0, " + i + ", " + (i + 1) + ")") + "read(0) = FULL");
    }

    private static void members(Bounds b) {
        b.sentence("Point 1", "MEMBERS 0, 1, .. (at most 10) are of a kind: 0 MEMBER, 1 GUEST under it, 2 CHAIR under MEMBER, 3 EXPERT under GUEST; each is of a DELEGATION (0 to 4), PRESENT (at first) or not.",
                "member(0, 0) = 0; member(1, 4) = 1; member(2, 0) = 2; member(3, 4) = 3; as(0, 1) = KIND; as(1, 0) = 1; as(2, 0) = 2; as(2, 1) = KIND; as(3, 1) = 3; as(3, 0) = 3; as(1, 3) = KIND; as(3, 2) = KIND",
                Script.times(10, m -> "member(" + m % 4 + ", " + m % 5 + ") = " + m + "; of(" + m + ", 0) = " + m % 4 + "; of(" + m + ", 1) = " + m % 5 + "; of(" + m + ", 2) = 1") + "member(0, 0) = FULL",
                "member(0, -1) = BEYOND; member(0, 5) = BEYOND; member(-1, 0) = BEYOND; member(4, 0) = BEYOND; member(0, 0); present(0, false) = 1; of(0, 2) = 0");
        b.sentence("Point 1", "TIME of a member: TICKS in which it had THE FLOOR; TIME of a DELEGATION: of all its members.",
                "member(0, 4); member(0, 4); member(0, 0); of(0, 3) = 0; time(4) = 0; ask(0, 0); ask(1, 2); begin(); of(0, 3) = 0; tick(1); of(0, 3) = 1; cut(); tick(1); of(0, 3) = 1; of(1, 3) = 1; time(4) = 2;"
                        + "tick(100) = 10; of(0, 3) = 10; of(1, 3) = 2; time(4) = 12; tick(100) = 0; time(4) = 12; present(0, false); time(4) = 12; time(0) = 0; right(0, 200); of(1, 3) = 2; time(4) = 12");
        b.sentence("Point 1", "SPEECHES of a member: how often it TOOK THE FLOOR for a SPEECH.",
                "member(0, 0); ask(0, 0); of(0, 4) = 0; begin(); of(0, 4) = 1; ask(0, 2); cut(); of(0, 4) = 1; yield(); of(0, 4) = 1; yield(); ask(0, 1); begin(); of(0, 4) = 1; yield(); ask(0, 2); begin(); of(0, 4) = 1;"
                        + "yield(); ask(0, 0); begin(); yield(); of(0, 4) = 2");
    }

    private static void askings(Bounds b) {
        b.sentence("Point 2", "ASKINGS, at most 20, each of a member and a SORT (0 SPEECH, 1 REPLY, 2 POINT), in the order asked; a member has one of each SORT at most.",
                Halls.members(10) + Halls.askings(20) + "told(1) = 20; ask(9, 2) = FULL; ask(0, 0) = SIZE; ask(0, 1) = SIZE; ask(0, 2) = SIZE; listed(0, false) = 0; listed(19, false) = 6;"
                        + "withdraw(0, 0) = 19; ask(0, 0) = 20; listed(0, true) = 1; listed(19, false) = 0; listed(19, true) = 0; ask(9, 2) = FULL",
                "member(0, 0); ask(0, -1) = BEYOND; ask(0, 3) = BEYOND; ask(0, 2) = 1; ask(0, 1) = 2; ask(0, 0) = 3; listed(0, true) = 2; listed(1, true) = 1; listed(2, true) = 0");
        b.sentence("Point 2", "THE LIST: all ASKINGS of PRESENT members, those AHEAD first.",
                Halls.members(3) + "ask(0, 0); ask(1, 0); ask(2, 2); present(1, false); listed(0, false) = 0; listed(1, false) = 2; listed(2, false) = NONE; key(1); listed(0, false) = 2; listed(1, false) = 0;"
                        + "present(0, false); present(2, false); listed(0, false) = NONE; present(1, true); listed(0, false) = 1; listed(1, false) = NONE; present(0, true); present(2, true); listed(0, false) = 2; listed(2, false) = 1");
        b.sentence("Point 2", "NEXT: its first one.",
                "member(0, 0); member(2, 1); member(2, 2); ask(0, 0); ask(1, 1); ask(2, 1); key(9); key(2); listed(0, false) = 1; begin() = 1; yield(); present(2, false); listed(0, false) = 0; begin() = 0");
    }

    private static void rule(Bounds b) {
        b.sentence("Point 2", "THE RULE: up to 6 KEYS.",
                Script.times(6, i -> "key(" + (i + 2) + ") = " + (i + 1)) + "key(1) = FULL; key(8) = FULL; key(9) = FULL; told(2) = 6",
                "sheet(0, 8, 7);" + Script.times(7, i -> "put(0, " + i + ", " + (i + 1) + ")") + "read(0) = FULL; told(2) = 0; put(0, 6, 0); read(0) = 6; key(7) = FULL");
        b.sentence("Point 2", "Of two ASKINGS that one is AHEAD which the first KEY by which they differ puts ahead; without such that asked first.",
                Halls.members(2) + "ask(1, 0); ask(0, 0); listed(0, false) = 1;" + Script.each("key(#); listed(0, false) = 1; place(0, 0) = 1", 1, 2, 3, 4, 5, 6),
                Halls.members(2) + "ask(1, 0); ask(0, 0);" + Script.each("key(#); listed(0, false) = 1", 7, 8, 9),
                // Six KEYS, of which only the sixth tells the two apart.
                "member(0, 0); member(2, 1); ask(0, 0); ask(1, 0);" + Script.each("key(#); listed(0, false) = 0", 1, 2, 3, 4, 5) + "key(9) = 6; listed(0, false) = 1",
                "member(0, 0); member(2, 1); ask(0, 2); ask(1, 1); key(1); key(2); key(9); listed(0, false) = 0; noKeys(); key(2); key(1); listed(0, false) = 1; noKeys(); key(3); key(9); key(1); listed(0, false) = 1;"
                        + "noKeys(); key(3); key(1); key(9); listed(0, false) = 0");
        b.sentence("Point 2", "KEYS: 1 POINTS ahead of others; 2 REPLIES ahead of others; 3 members without SPEECHES ahead of others; 4 members with fewer SPEECHES; 5 with less TIME; "
                        + "6 of DELEGATIONS with less TIME; 7 of DELEGATIONS other than that of who TOOK THE FLOOR latest ahead (all alike before anybody did); "
                        + "8 members that are no GUESTS (nor EXPERTS) ahead; 9 CHAIRS ahead of others.",
                "member(0, 0); ask(0, 0); ask(0, 1); ask(0, 2); key(1); listed(0, true) = 2; listed(1, true) = 0; listed(2, true) = 1; noKeys(); key(2); listed(0, true) = 1; listed(1, true) = 0; listed(2, true) = 2",
                // Members 0, 1, 2 have 2, 1, 0 SPEECHES: KEY 3 finds 0 and 1 alike, KEY 4 does not.
                Halls.members(3) + Halls.speech(0, 1) + Halls.speech(0, 1) + Halls.speech(1, 1) + "ask(0, 0); ask(1, 0); ask(2, 0); key(3); listed(0, false) = 2; listed(1, false) = 0; listed(2, false) = 1;"
                        + "noKeys(); key(4); listed(0, false) = 2; listed(1, false) = 1; listed(2, false) = 0",
                // A SPEECH without a TICK is one; a REPLY is none.
                Halls.members(2) + "ask(0, 0); begin(); yield(); ask(1, 1); begin(); tick(4); ask(0, 0); ask(1, 0); key(3); listed(0, false) = 1; noKeys(); key(5); listed(0, false) = 0",
                // TIMES 3, 2, 3: equal ones are alike.
                Halls.members(3) + Halls.speech(0, 3) + Halls.speech(1, 2) + Halls.speech(2, 3) + "ask(2, 0); ask(0, 0); ask(1, 0); key(5); listed(0, false) = 1; listed(1, false) = 2; listed(2, false) = 0",
                // DELEGATION 0 has 5 by two members, DELEGATION 1 has 4 by one.
                "member(0, 0); member(0, 0); member(0, 1);" + Halls.speech(0, 3) + Halls.speech(1, 2) + Halls.speech(2, 4)
                        + "ask(1, 0); ask(0, 0); ask(2, 0); key(6); listed(0, false) = 2; listed(1, false) = 1; listed(2, false) = 0; noKeys(); key(5); listed(0, false) = 1; listed(2, false) = 2",
                "member(0, 0); member(0, 1); ask(0, 0); ask(1, 0); key(7); listed(0, false) = 0; place(1, 0) = 1; begin() = 0; ask(0, 0); listed(0, false) = 1; ask(1, 2); listed(2, false) = 0; cut() = 1;"
                        + "listed(0, false) = 0; listed(1, false) = 1; yield() = 0; listed(0, false) = 0; yield() = -1; listed(0, false) = 0",
                "member(0, 0); member(0, 0); member(0, 4);" + Halls.speech(1, 1) + "ask(1, 0); ask(0, 0); ask(2, 0); key(7); listed(0, false) = 2; listed(1, false) = 1; listed(2, false) = 0",
                "member(1, 0); member(3, 0); member(0, 0); member(2, 0); ask(1, 0); ask(0, 0); ask(3, 0); ask(2, 0); key(8); listed(0, false) = 3; listed(1, false) = 2; listed(2, false) = 1; listed(3, false) = 0;"
                        + "noKeys(); key(9); listed(0, false) = 3; listed(1, false) = 1; listed(2, false) = 0; listed(3, false) = 2");
    }

    private static void floor(Bounds b) {
        b.sentence("Point 3", "THE FLOOR is had by a member for a SORT, with TICKS LEFT, or by nobody (at first); up to 4 others may be BEHIND, with TICKS LEFT.",
                "floor(0) = NONE; floor(3) = 0;" + Halls.members(6) + "limit(2, 20);" + "ask(0, 0); begin(); tick(1);" + Script.times(4, i -> "ask(" + (i + 1) + ", 2); cut() = " + (i + 1) + "; tick(" + (i + 2) + ")")
                        + "floor(3) = 4; ask(5, 2); cut() = FULL; floor(2) = 15; yield() = 3; floor(2) = 16; yield() = 2; floor(2) = 17; yield() = 1; floor(2) = 18; floor(1) = 2; yield() = 0; floor(2) = 9;"
                        + "floor(1) = 0; floor(3) = 0; yield() = -1; floor(0) = NONE");
        b.sentence("Point 3", "LIMITS of the SORTS are 10, 4, 2 at first (1 to 50); for an EXPERT twice that.",
                "limit(0, 0) = BEYOND; limit(0, 51) = BEYOND; limit(0, 50) = 10; limit(1, 50) = 4; limit(2, 1) = 2",
                Script.times(4, m -> "member(" + m + ", 0)") + Script.times(3, s -> Script.times(4, m -> "ask(" + m + ", " + s + "); begin() = " + m + "; floor(2) = " + (m == 3 ? 2 : 1) * new int[] {10, 4, 2}[s] + "; yield()")),
                Script.times(4, m -> "member(" + m + ", 0)") + "limit(0, 50); limit(1, 1);" + Script.times(4, m -> "ask(" + m + ", 0); begin(); floor(2) = " + (m == 3 ? 100 : 50)
                        + "; yield(); ask(" + m + ", 1); begin(); floor(2) = " + (m == 3 ? 2 : 1) + "; yield()"));
        b.sentence("Point 3", "TO TAKE THE FLOOR by an ASKING: that goes; TICKS LEFT is the LIMIT.",
                "member(0, 0); ask(0, 0); ask(0, 1); ask(0, 2); begin() = 0; told(1) = 2; place(0, 0) = NONE; floor(2) = 10; limit(2, 7); cut() = 0; told(1) = 1; place(0, 2) = NONE; place(0, 1) = 0; floor(2) = 7;"
                        + "ask(0, 0) = 2; ask(0, 2) = 3");
    }

    private static void endings(Bounds b) {
        b.sentence("Point 3", "TO END: a row of MINUTES is written (the member, the SORT, how many TICKS it had THE FLOOR since it TOOK it), and the latest who is BEHIND, if any, has THE FLOOR again.",
                FLOOR_AND_POINT + "tick(3); cut(); tick(1); told(3) = 0; yield() = 0; told(3) = 1; minutes(0, 0) = 1; minutes(0, 1) = 2; minutes(0, 3) = 1; tick(2); yield() = -1; told(3) = 2; minutes(1, 0) = 0;"
                        + "minutes(1, 1) = 0; minutes(1, 3) = 5; floor(0) = NONE",
                // What it had in an earlier SPEECH does not count in the row of the next one.
                "member(0, 0);" + Halls.speech(0, 4) + "ask(0, 0); begin(); yield(); minutes(1, 3) = 0; ask(0, 1); begin(); tick(4); minutes(2, 3) = 4; minutes(2, 1) = 1",
                Halls.members(5) + Halls.cuts(4) + "tick(2) = 2; floor(0) = 3; tick(2); floor(0) = 2; tick(2); floor(0) = 1; tick(2); floor(0) = 0; floor(3) = 0; tick(9) = 9; floor(0) = 0; tick(1) = 1; floor(0) = NONE;"
                        + "minutes(0, 0) = 4; minutes(3, 0) = 1; minutes(4, 0) = 0; minutes(4, 3) = 10");
        b.sentence("Point 3", "In each TICK who has it has one more of TIME, and one less LEFT; with none LEFT it ENDS.",
                "member(0, 0); ask(0, 2); begin(); floor(2) = 2; tick(1) = 1; floor(2) = 1; of(0, 3) = 1; told(3) = 0; tick(1) = 1; of(0, 3) = 2; told(3) = 1; floor(2) = NONE",
                "member(0, 0); limit(0, 1); ask(0, 0); begin(); tick(1) = 1; floor(0) = NONE; minutes(0, 3) = 1",
                FLOOR_AND_POINT + "tick(9); cut(); tick(2) = 2; floor(0) = 0; floor(2) = 1; told(3) = 1; tick(1) = 1; told(3) = 2; floor(0) = NONE; of(0, 3) = 10; of(1, 3) = 2",
                FLOOR_AND_POINT + "tick(9); cut(); tick(3) = 3; told(3) = 2; tick(1) = 0; of(0, 3) = 10");
    }

    private static void waits(Bounds b) {
        b.sentence("Point 4", "WAIT of a PRESENT member that asks for a SPEECH: as if nobody had THE FLOOR, and nobody else came or went: again and again the first SPEECH of THE LIST TAKES THE FLOOR, "
                        + "has it for its whole LIMIT, ENDS, and asks for a SPEECH again at once: how many do so ahead of the member; NEVER if 100 did.",
                // By the order asked each comes once; who has THE FLOOR, who is away and other SORTS do not come.
                Halls.members(4) + "ask(3, 0); begin(); ask(0, 0); ask(1, 0); ask(1, 2); ask(2, 0); wait(0) = 0; wait(1) = 1; wait(2) = 2; present(0, false); wait(2) = 1; key(1); wait(2) = 1; ask(3, 0); wait(3) = 2;"
                        + "floor(2) = 10; told(1) = 5; told(3) = 0; of(1, 4) = 0; of(1, 3) = 0",
                // 30 TICKS more: three SPEECHES of 10, or two of an EXPERT's 20; at equal TIME who asked earlier is ahead.
                "member(0, 0); member(0, 1); member(3, 2); limit(0, 30); ask(0, 0); begin(); tick(30); limit(0, 10); key(5); ask(0, 0); ask(1, 0); wait(0) = 3; wait(1) = 0; limit(0, 15); wait(0) = 2; limit(0, 16); wait(0) = 2;"
                        + "limit(0, 29); wait(0) = 2; limit(0, 30); wait(0) = 1; withdraw(1, 0); limit(0, 10); ask(2, 0); wait(0) = 2; limit(0, 14); wait(0) = 2; limit(0, 15); wait(0) = 1",
                // At equal TIME the one that asked first is ahead, once.
                "member(0, 0); member(0, 1); key(5); ask(1, 0); ask(0, 0); wait(0) = 1; wait(1) = 0",
                // By KEY 4 the other one needs as many SPEECHES; by KEY 7 the DELEGATIONS take turns; by KEY 6 all of a DELEGATION count.
                "member(0, 0); member(0, 1);" + Halls.speech(0, 1) + Halls.speech(0, 1) + Halls.speech(0, 1) + "ask(0, 0); ask(1, 0); key(4); wait(0) = 3; noKeys(); key(3); wait(0) = 1; noKeys(); wait(0) = 0",
                "member(0, 0); member(0, 0); member(0, 1); ask(0, 0); ask(1, 0); ask(2, 0); key(7); wait(0) = 0; wait(1) = 2; wait(2) = 1; noKeys(); key(6); wait(1) = 2; wait(2) = 1",
                // Who TOOK THE FLOOR latest, ahead of all that is supposed, counts for KEY 7.
                "member(0, 0); member(0, 1);" + Halls.speech(0, 1) + "ask(0, 0); ask(1, 0); key(7); wait(0) = 1; wait(1) = 0; noKeys(); wait(0) = 0; wait(1) = 1",
                // A CHAIR is ahead for ever, and so is whoever is no GUEST.
                "member(1, 0); member(0, 1); member(2, 2); ask(0, 0); ask(1, 0); ask(2, 0); key(9); wait(0) = NEVER; wait(1) = NEVER; wait(2) = 0; noKeys(); key(8); wait(0) = NEVER; wait(1) = 0; wait(2) = 1; present(1, false);"
                        + "present(2, false); wait(0) = 0");
    }

    private static void fits(Bounds b) {
        b.sentence("Point 4", "FITS in t TICKS: THE LIST in order, as things stand now: those whose LIMITS together are t at most, up to the first with which they would be above; skipping: such are left out, and one goes on.",
                // LIMITS in the order asked: 4, 20, 2, 10.
                "member(0, 0); member(3, 0); ask(0, 1); ask(1, 0); ask(0, 2); ask(0, 0);" + Script.each("fits(#, false) = 0", 0, 1, 2, 3) + Script.each("fits(#, false) = 1", 4, 22, 23) + "fits(24, false) = 2; fits(25, false) = 2;"
                        + "fits(26, false) = 3; fits(35, false) = 3; fits(36, false) = 4; fits(1000, false) = 4;" + Script.each("fits(#, true) = 0", 0, 1) + Script.each("fits(#, true) = 1", 2, 3, 4, 5)
                        + Script.each("fits(#, true) = 2", 6, 15) + Script.each("fits(#, true) = 3", 16, 23) + Script.each("fits(#, true) = 2", 24, 25) + "fits(26, true) = 3; fits(36, true) = 4",
                "member(0, 0); member(3, 0); ask(0, 1); ask(1, 0); ask(0, 2); ask(0, 0); key(1); fits(2, false) = 1; fits(6, false) = 2; limit(2, 50); fits(49, false) = 0; fits(49, true) = 3; present(0, false); fits(19, true) = 0;"
                        + "fits(20, true) = 1; fits(20, false) = 1; present(1, false); fits(1000, true) = 0");
    }

    private static void votes(Bounds b) {
        b.sentence("Point 5", "THE VOTE is open or not.",
                "told(6) = 0; vote() = 1; told(6) = 1; vote() = BUSY; told(6) = 1; close(1) = 0; told(6) = 0; close(1) = NONE; told(6) = 0");
        b.sentence("Point 5", "Each PRESENT member that is no GUEST (nor EXPERT) MAY VOTE; it says yes (1), no (2), or neither (0, at first).",
                Script.times(4, m -> "member(" + m + ", 0)") + "vote(); votes(0) = 2; say(0, 1) = 0; say(1, 1) = KIND; say(2, 2) = 0; say(3, 1) = KIND; say(0, 3) = BEYOND; say(0, -1) = BEYOND; votes(1) = 1; votes(2) = 1; votes(0) = 0;"
                        + "present(0, false); say(0, 1) = KIND; votes(1) = 0; present(0, true); votes(1) = 1; member(0, 0) = 4; votes(0) = 1; say(4, 0) = 0");
        b.sentence("Point 5", "It PASSES by NEED 1: yes above no; by 2: three times yes is twice yes and no together at least, and yes above 0; by 3: no no, and yes above 0.",
                needs(0, 0, 0, 0, 0), needs(1, 0, 1, 1, 1), needs(0, 1, 0, 0, 0), needs(1, 1, 0, 0, 0), needs(2, 1, 1, 1, 0), needs(3, 1, 1, 1, 0), needs(3, 2, 1, 0, 0), needs(4, 2, 1, 1, 0),
                needs(5, 3, 1, 0, 0), needs(6, 3, 1, 1, 0), needs(6, 4, 1, 0, 0), needs(5, 5, 0, 0, 0), needs(4, 5, 0, 0, 0), needs(10, 0, 1, 1, 1), needs(9, 1, 1, 1, 0), needs(0, 10, 0, 0, 0));
        b.sentence("Point 5", "Only what those say counts who MAY VOTE as things stand.",
                "member(0, 0); member(0, 0); vote(); say(0, 1); say(1, 2); votes(2) = 1; present(1, false); votes(2) = 0; close(3) = 1",
                "member(0, 0); member(0, 0); vote(); say(0, 1); say(1, 2); present(1, false); present(1, true); votes(2) = 1; close(1) = 0",
                "member(0, 0); vote(); say(0, 1); present(0, false); votes(1) = 0; close(1) = 0");
        b.sentence("Point 5", "HANDS, counted a for and b against, each off by at most e: 1 if it PASSES with all counts that may be (not below 0), 0 if with none, else 2.",
                // With e 1: 3 to 1 may be 2 to 2, 4 to 1 may be 3 to 2, and 0 to 2 may be 1 to 1.
                "hands(1, 3, 1, 1) = 2; hands(1, 4, 1, 1) = 1; hands(1, 0, 2, 1) = 0; hands(1, 0, 1, 1) = 2; hands(1, 0, 0, 1) = 2; hands(1, 0, 0, 100) = 2; hands(1, 2, 1, 0) = 1; hands(1, 1, 1, 0) = 0",
                // Twice as many yes as no: 7 to 2 may be 6 to 3, 6 to 2 may be 5 to 3, and 2 to 3 may be 3 to 2.
                "hands(2, 7, 2, 1) = 1; hands(2, 6, 2, 1) = 2; hands(2, 3, 3, 1) = 2; hands(2, 2, 3, 1) = 0; hands(2, 0, 0, 1) = 2; hands(2, 1, 0, 1) = 2; hands(2, 2, 0, 1) = 2; hands(2, 3, 0, 1) = 1; hands(2, 0, 0, 0) = 0",
                "hands(3, 2, 0, 1) = 2; hands(3, 2, 0, 0) = 1; hands(3, 0, 0, 0) = 0; hands(3, 0, 0, 1) = 2; hands(3, 0, 1, 1) = 2; hands(3, 0, 2, 1) = 0; hands(3, 9, 1, 0) = 0; hands(3, 1000, 99, 100) = 2; hands(3, 1000, 101, 100) = 0");
    }

    /** So many of ten say yes and no, and THE VOTE is closed by each NEED. */
    private static String needs(int yes, int no, int... passes) {
        String said = Script.times(yes, m -> "say(" + m + ", 1)") + Script.times(no, m -> "say(" + (9 - m) + ", 2)");
        return Halls.members(10) + Script.times(3, i -> "vote();" + said + "close(" + (i + 1) + ") = " + passes[i]);
    }

    private static void uneven(Bounds b) {
        b.sentence("Point 6", "UNEVEN: of the DELEGATIONS that have a member, n of them: the sum over all pairs (each once) of how far their TIMES are apart, by n times all TIME "
                        + "(a fraction in lowest terms; 0 by 1 if there is no TIME).",
                "uneven(false) = 0; uneven(true) = 1; member(0, 0); uneven(false) = 0; uneven(true) = 1; member(0, 4); ask(0, 0); begin(); yield(); uneven(false) = 0; uneven(true) = 1",
                // One DELEGATION alone, then one of five with all TIME: 4 times T by 5 times T.
                "member(0, 2);" + Halls.speech(0, 7) + "uneven(false) = 0; uneven(true) = 1; member(0, 2); uneven(false) = 0; uneven(true) = 1; member(0, 0); uneven(false) = 1; uneven(true) = 2; member(0, 1); uneven(false) = 2;"
                        + "uneven(true) = 3; member(0, 3); uneven(false) = 3; uneven(true) = 4; member(0, 4); uneven(false) = 4; uneven(true) = 5; present(0, false); uneven(false) = 4; uneven(true) = 5",
                // TIMES 1 to 5: pairs 4 * 1 + 3 * 2 + 2 * 3 + 4 are 20, by 5 * 15.
                Halls.members(5) + Script.times(5, m -> Halls.speech(m, m + 1)) + "uneven(false) = 4; uneven(true) = 15",
                // TIMES all alike: 0 by 1, in lowest terms.
                Halls.members(5) + Script.times(5, m -> Halls.speech(m, 3)) + "uneven(false) = 0; uneven(true) = 1;" + Halls.speech(0, 1) + "uneven(false) = 1; uneven(true) = 20",
                // TIMES 3 and 4: nothing to reduce.
                "member(0, 0); member(3, 1);" + Halls.speech(0, 3) + Halls.speech(1, 4) + "uneven(false) = 1; uneven(true) = 14");
    }

    private static void minutes(Bounds b) {
        b.sentence("Point 6", "MINUTES, at most 100 rows (the oldest go beyond that; row 0 is the oldest that is there).",
                Halls.members(6) + Halls.fiveRows(19) + Halls.cuts(3) + "tick(100); told(3) = 99; minutes(98, 0) = 0; minutes(99, 0) = BEYOND; minutes(0, 0) = 4;" + Halls.speech(5, 7) + "told(3) = 100; minutes(0, 0) = 4;"
                        + "minutes(99, 0) = 5;" + Halls.speech(5, 8) + "told(3) = 100; minutes(0, 0) = 3; minutes(98, 3) = 7; minutes(99, 3) = 8; minutes(100, 0) = BEYOND; sum(4, 0) = 36;" + Halls.speech(5, 9)
                        + "minutes(0, 0) = 2; minutes(97, 3) = 7; minutes(98, 3) = 8; minutes(99, 3) = 9",
                // 5 at a time, up to 205 rows: the oldest that is there is number 105, which member 4 wrote.
                Halls.members(5) + Halls.fiveRows(41) + "told(3) = 100; minutes(0, 0) = 4; minutes(0, 3) = 2; minutes(4, 0) = 0; minutes(4, 3) = 10; minutes(99, 0) = 0; minutes(99, 3) = 10; minutes(95, 0) = 4; sum(0, 0) = 200; sum(1, 0) = 40");
        b.sentence("Point 6", "A row may be PUT RIGHT to other TICKS; each time has a count: 1, 2, ..",
                "member(0, 0);" + Halls.speech(0, 4) + Halls.speech(0, 5) + "right(1, 7) = 1; right(0, 8) = 2; right(1, 7) = 3; right(1, 5) = 4; told(5) = 4; minutes(0, 2) = 8; minutes(0, 3) = 4; minutes(1, 2) = 5; right(0, 201) = BEYOND;"
                        + "right(0, -1) = BEYOND; right(0, 200) = 5; right(0, 0) = 6; minutes(0, 2) = 0",
                // The count goes on when the rows go.
                Halls.members(5) + Halls.fiveRows(20) + "right(0, 9) = 1;" + Halls.speech(0, 1) + "told(5) = 1; right(0, 9) = 2; minutes(0, 2) = 9; minutes(1, 2) = 2");
        b.sentence("Point 6", "AS of k a row has the TICKS to which it was PUT RIGHT latest with a count of k at most, its first ones without such.",
                "member(0, 0); member(0, 1);" + Halls.speech(0, 4) + Halls.speech(1, 5) + "right(0, 100); right(1, 50); right(0, 200); sum(0, 0) = 4; sum(0, 1) = 100; sum(0, 2) = 100; sum(0, 3) = 200; sum(1, 0) = 5; sum(1, 1) = 5;"
                        + "sum(1, 2) = 50; sum(1, 3) = 50; sum(0, 4) = BEYOND; sum(0, -1) = BEYOND",
                // A row that is written later has its first TICKS as of any count.
                "member(0, 0);" + Halls.speech(0, 4) + "right(0, 100);" + Halls.speech(0, 5) + "sum(0, 0) = 9; sum(0, 1) = 105",
                // The newest of 100 rows is PUT RIGHT, then 100 more come: nothing of it is left, and no other row has it.
                Halls.members(5) + Halls.fiveRows(20) + "right(99, 77) = 1; right(0, 55) = 2; sum(0, 1) = 267; sum(4, 2) = 93;" + Halls.fiveRows(20) + "minutes(99, 2) = 10; minutes(0, 2) = 2; sum(0, 2) = 200; sum(4, 2) = 40; told(5) = 2",
                // PUT RIGHT in row 99, it is found in row 94 when five more came.
                Halls.members(5) + Halls.fiveRows(20) + "right(99, 77) = 1; right(4, 55) = 2;" + Halls.fiveRows(1) + "minutes(94, 2) = 77; minutes(94, 3) = 10; minutes(99, 2) = 10; minutes(4, 2) = 10; sum(0, 2) = 267; sum(0, 0) = 200;"
                        + "right(94, 20) = 3; minutes(94, 2) = 20; sum(0, 3) = 210; sum(0, 1) = 267");
    }

    private static void sheets(Bounds b) {
        b.sentence("Point 7", "SHEETS 0 to 3 are rows of up to 12 numbers of 8, 16 or 32 bits, or MISSING (all, at first).",
                Script.times(4, s -> "read(" + s + ") = MISSING; sheet(" + s + ", 8, 13) = BEYOND; sheet(" + s + ", 8, 12) = 12; put(" + s + ", 11, 1) = 0; put(" + s + ", 12, 1) = BEYOND; read(" + s + ") = 0"),
                "sheet(-1, 8, 1) = BEYOND; sheet(4, 8, 1) = BEYOND; sheet(0, 4, 1) = BEYOND; sheet(0, 64, 1) = BEYOND; sheet(0, 16, 1) = 1; sheet(1, 32, 1) = 1; sheet(2, 8, 1) = 1; read(3) = MISSING",
                "sheet(0, 8, 1); sheet(1, 16, 1); sheet(2, 32, 1);" + Script.times(3, s -> "put(" + s + ", 0, 256); read(" + s + ") = " + (s == 0 ? "0" : "BEYOND") + "; put(" + s + ", 0, 65536); read(" + s + ") = " + (s == 2 ? "BEYOND" : "0")));
    }
}
