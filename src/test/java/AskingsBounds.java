/** Promises 7 to 14, sentence by sentence. */
final class AskingsBounds {
    private static final int LEAST = Halls.LEAST;
    private static final int MOST = Halls.MOST;
    /** Member 0 has had 50 TICKS so far; both have LIMIT 1 then, so that member 1 is ahead once for each TICK that 0 has more. */
    private static final String BEHIND_BY_TICKS = "member(0, 0); member(0, 1); key(5); limit(0, 50); ask(0, 0); begin(); tick(50); ask(0, 0); begin();";
    private static final String THEN_BOTH_ASK = "limit(0, 1); ask(1, 0); ask(0, 0);";

    private AskingsBounds() { }

    static void all(Bounds b) {
        ask(b);
        withdraw(b);
        key(b);
        noKeys(b);
        listed(b);
        place(b);
        waiting(b);
        fits(b);
    }

    private static void ask(Bounds b) {
        b.sentence("Promise 7", "A member asks: how many ASKINGS there are.",
                Halls.members(7) + Script.times(20, i -> "ask(" + i / 3 + ", " + i % 3 + ") = " + (i + 1) + "; told(1) = " + (i + 1)),
                "member(0, 0); present(0, false); ask(0, 0) = 1; ask(0, 1) = 2; ask(0, 2) = 3",
                "member(0, 0); ask(0, 0) = 1; begin() = 0; told(1) = 0; ask(0, 0) = 1; ask(0, 2) = 2; cut() = 0; ask(0, 2) = 2");
        b.sentence("Promise 7", "BEYOND: no such member, or SORT.",
                "ask(0, 0) = BEYOND; member(0, 0);" + Script.each("ask(#, 0) = BEYOND", -1, 1, 10, LEAST, MOST)
                        + Script.each("ask(0, #) = BEYOND", -1, 3, LEAST, MOST) + "ask(1, 3) = BEYOND; told(1) = 0; ask(0, 0) = 1; ask(0, 2) = 2",
                Halls.members(10) + "ask(10, 2) = BEYOND; ask(9, 3) = BEYOND; ask(9, 2) = 1",
                Halls.RICH + "ask(7, 0) = BEYOND; ask(-1, 0) = BEYOND; ask(6, 3) = BEYOND; ask(6, -1) = BEYOND; ask(6, 0) = 7");
        b.sentence("Promise 7", "SIZE: it has one of that SORT.",
                "member(0, 0); member(0, 0);" + Script.times(3, s -> "ask(0, " + s + ") = " + (s + 1) + "; ask(0, " + s + ") = SIZE") + "told(1) = 3; ask(1, 0) = 4",
                "member(0, 0); ask(0, 1) = 1; present(0, false); ask(0, 1) = SIZE; withdraw(0, 1) = 0; ask(0, 1) = 1; ask(0, 1) = SIZE",
                "member(0, 0); ask(0, 0) = 1; ask(0, 3) = BEYOND; ask(0, 0) = SIZE; begin(); ask(0, 0) = 1; ask(0, 0) = SIZE",
                Halls.RICH + "ask(0, 1) = SIZE; ask(5, 0) = SIZE; ask(6, 2) = SIZE; ask(0, 0) = 7");
        b.sentence("Promise 7", "FULL: there are 20.",
                Halls.members(7) + Halls.askings(19) + "ask(6, 1) = 20; ask(6, 2) = FULL; told(1) = 20; withdraw(0, 0) = 19; ask(6, 2) = 20; ask(0, 0) = FULL",
                Halls.members(10) + Halls.askings(20) + "ask(9, 0) = FULL; ask(6, 2) = FULL; ask(6, 1) = SIZE; ask(0, 0) = SIZE; ask(6, 3) = BEYOND; ask(10, 0) = BEYOND",
                Halls.RICH + "ask(0, 0) = 7; ask(0, 2) = 8; ask(1, 0); ask(1, 1); ask(1, 2); ask(2, 0); ask(2, 1); ask(3, 1); ask(3, 2); ask(4, 0); ask(4, 1); ask(4, 2) = 18; ask(5, 1) = 19; ask(5, 2) = 20;"
                        + "ask(6, 0) = FULL; withdraw(5, 0) = 19; ask(6, 0) = 20",
                Halls.members(7) + Halls.askings(20) + "present(0, false); ask(6, 2) = FULL; present(0, true); begin() = 0; ask(6, 2) = 20; ask(0, 0) = FULL");
    }

    private static void withdraw(Bounds b) {
        b.sentence("Promise 8", "A member's ASKING goes: how many there are.",
                "member(0, 0); ask(0, 0); withdraw(0, 0) = 0; told(1) = 0; listed(0, false) = NONE",
                Halls.members(7) + Halls.askings(20) + "withdraw(6, 1) = 19; withdraw(0, 0) = 18; listed(0, true) = 1; listed(17, true) = 0; withdraw(3, 1) = 17;"
                        + "listed(8, true) = 0; listed(8, false) = 3; listed(9, true) = 2; listed(16, false) = 6; listed(17, false) = NONE",
                "member(0, 0); member(0, 1); ask(0, 0); ask(1, 0); ask(0, 2); present(0, false); withdraw(0, 0) = 2; present(0, true);"
                        + "listed(0, false) = 1; listed(1, true) = 2; withdraw(1, 0) = 1; withdraw(0, 2) = 0");
        b.sentence("Promise 8", "BEYOND.",
                "withdraw(0, 0) = BEYOND; member(0, 0); ask(0, 0); ask(0, 2);" + Script.each("withdraw(#, 0) = BEYOND", -1, 1, 10, LEAST, MOST)
                        + Script.each("withdraw(0, #) = BEYOND", -1, 3, LEAST, MOST) + "told(1) = 2; withdraw(0, 2) = 1; withdraw(0, 0) = 0",
                Halls.members(10) + "ask(9, 2); withdraw(10, 2) = BEYOND; withdraw(9, 3) = BEYOND; withdraw(9, 2) = 0",
                Halls.RICH + "withdraw(7, 0) = BEYOND; withdraw(-1, 2) = BEYOND; withdraw(6, 3) = BEYOND; withdraw(6, -1) = BEYOND; withdraw(6, 2) = 5");
        b.sentence("Promise 8", "NONE: it has none of that SORT.",
                "member(0, 0); member(0, 0); withdraw(0, 0) = NONE; ask(0, 0); ask(0, 2); ask(1, 1); withdraw(0, 1) = NONE; withdraw(1, 0) = NONE; withdraw(1, 2) = NONE;"
                        + "withdraw(0, 0) = 2; withdraw(0, 0) = NONE; told(1) = 2",
                "member(0, 0); ask(0, 0); begin(); withdraw(0, 0) = NONE; floor(0) = 0",
                Halls.members(7) + Halls.askings(20) + "withdraw(6, 2) = NONE; told(1) = 20",
                Halls.RICH + "withdraw(0, 0) = NONE; withdraw(5, 2) = NONE; withdraw(4, 0) = NONE; withdraw(5, 0) = 5; withdraw(5, 0) = NONE");
    }

    private static void key(Bounds b) {
        b.sentence("Promise 9", "A KEY (1 to 9) comes behind those of THE RULE: how many.",
                "key(9) = 1; key(1) = 2; told(2) = 2",
                Script.times(6, i -> "key(" + (i + 1) + ") = " + (i + 1)),
                Script.times(6, i -> "key(" + (9 - i) + ") = " + (i + 1)),
                "member(0, 0); member(2, 0); ask(0, 2); ask(1, 0); listed(0, false) = 0; key(9) = 1; listed(0, false) = 1; key(1) = 2; listed(0, false) = 1;"
                        + "noKeys() = 2; key(1) = 1; listed(0, false) = 0; key(9) = 2; listed(0, false) = 0");
        b.sentence("Promise 9", "BEYOND.",
                Script.each("key(#) = BEYOND", 0, 10, -1, LEAST, MOST) + "told(2) = 0; key(1) = 1; key(9) = 2",
                Halls.RICH + "key(0) = BEYOND; key(10) = BEYOND; told(2) = 3");
        b.sentence("Promise 9", "SIZE: it is there.",
                Script.times(6, i -> "key(" + (i + 4) + ") = " + (i + 1) + "; key(" + (i + 4) + ") = SIZE") + "told(2) = 6",
                "key(1) = 1; noKeys() = 1; key(1) = 1; key(1) = SIZE; key(9) = 2; key(9) = SIZE; key(1) = SIZE",
                "sheet(0, 8, 2); put(0, 0, 3); put(0, 1, 8); read(0) = 2; key(8) = SIZE; key(3) = SIZE; key(1) = 3",
                Halls.RICH + "key(3) = SIZE; key(9) = SIZE; key(7) = SIZE");
        b.sentence("Promise 9", "FULL: there are 6.",
                Script.times(5, i -> "key(" + (i + 1) + ")") + "key(9) = 6; key(6) = FULL; key(7) = FULL; told(2) = 6",
                Script.times(6, i -> "key(" + (i + 1) + ")") + "key(1) = SIZE; key(6) = SIZE; key(0) = BEYOND; key(10) = BEYOND; key(7) = FULL; noKeys() = 6; key(7) = 1",
                Halls.RICH + "key(1) = 4; key(2) = 5; key(4) = 6; key(5) = FULL; key(9) = SIZE");
    }

    private static void noKeys(Bounds b) {
        b.sentence("Promise 10", "THE RULE has no KEYS: how many it had.",
                "noKeys() = 0; told(2) = 0; key(5); noKeys() = 1; told(2) = 0; noKeys() = 0; told(4) = 0",
                Script.times(6, i -> "key(" + (i + 1) + ")") + "noKeys() = 6; told(2) = 0; " + Script.times(6, i -> "key(" + (i + 1) + ") = " + (i + 1)) + "noKeys() = 6",
                "member(0, 0); member(2, 0); ask(0, 0); ask(1, 0); key(9); listed(0, false) = 1; noKeys() = 1; listed(0, false) = 0; place(1, 0) = 1");
    }

    private static void listed(Bounds b) {
        b.sentence("Promise 11", "The member at a place (from 0 on) of THE LIST (sort: the SORT instead).",
                Halls.members(7) + Halls.askings(20)
                        + Script.times(20, i -> "listed(" + i + ", false) = " + i / 3 + "; listed(" + i + ", true) = " + i % 3),
                Halls.members(7) + Halls.askings(20) + "key(1); listed(0, false) = 0; listed(0, true) = 2; listed(5, false) = 5; listed(5, true) = 2;"
                        + "listed(6, false) = 0; listed(6, true) = 0; listed(19, false) = 6; listed(19, true) = 1",
                Halls.members(3) + "ask(0, 1); ask(1, 2); ask(2, 0); present(0, false); listed(0, false) = 1; listed(0, true) = 2; listed(1, false) = 2; listed(1, true) = 0");
        b.sentence("Promise 11", "NONE: there is no such place.",
                "listed(0, false) = NONE; member(0, 0); listed(0, true) = NONE; ask(0, 2); listed(0, true) = 2;"
                        + Script.each("listed(#, false) = NONE", -1, 1, 19, 20, LEAST, MOST) + Script.each("listed(#, true) = NONE", -1, 1, LEAST, MOST),
                Halls.members(7) + Halls.askings(20) + "listed(19, false) = 6; listed(20, false) = NONE; listed(20, true) = NONE; listed(-1, true) = NONE;"
                        + "present(0, false); listed(16, false) = 6; listed(17, false) = NONE; listed(17, true) = NONE",
                "member(0, 0); ask(0, 0); present(0, false); listed(0, false) = NONE; listed(0, true) = NONE; present(0, true); listed(0, false) = 0",
                Halls.RICH + "listed(5, true) = NONE; listed(-1, false) = NONE; listed(4, false) = 0; listed(3, false) = 2");
    }

    private static void place(Bounds b) {
        b.sentence("Promise 12", "The place of a member's ASKING in THE LIST.",
                Halls.members(7) + Halls.askings(20) + Script.times(20, i -> "place(" + i / 3 + ", " + i % 3 + ") = " + i),
                Halls.members(7) + Halls.askings(20) + "key(2); place(0, 1) = 0; place(6, 1) = 6; place(0, 0) = 7; place(6, 0) = 19; present(0, false); place(6, 1) = 5; place(6, 0) = 16");
        b.sentence("Promise 12", "BEYOND: no such member, or SORT.",
                "place(0, 0) = BEYOND; member(0, 0); ask(0, 0); ask(0, 2);" + Script.each("place(#, 0) = BEYOND", -1, 1, 10, LEAST, MOST)
                        + Script.each("place(0, #) = BEYOND", -1, 3, LEAST, MOST) + "place(0, 0) = 0; place(0, 2) = 1",
                Halls.members(10) + "ask(9, 2); place(10, 2) = BEYOND; place(9, 3) = BEYOND; place(9, 2) = 0",
                Halls.RICH + "place(7, 0) = BEYOND; place(5, 3) = BEYOND; place(5, -1) = BEYOND");
        b.sentence("Promise 12", "NONE: it has none, or is not PRESENT.",
                "member(0, 0); place(0, 0) = NONE; ask(0, 1); place(0, 0) = NONE; place(0, 2) = NONE; place(0, 1) = 0; present(0, false); place(0, 1) = NONE;"
                        + "place(0, 0) = NONE; present(0, true); place(0, 1) = 0; withdraw(0, 1); place(0, 1) = NONE",
                "member(0, 0); ask(0, 0); begin(); place(0, 0) = NONE",
                Halls.RICH + "place(5, 0) = NONE; place(4, 0) = NONE; place(0, 0) = NONE; present(5, true); place(5, 0) = 0; place(3, 0) = 1");
    }

    private static void waiting(Bounds b) {
        b.sentence("Promise 13", "WAIT of a member.",
                "member(0, 0); ask(0, 0); wait(0) = 0; present(0, true); wait(0) = 0; told(4) = 0",
                Halls.members(10) + Script.times(10, m -> "ask(" + m + ", 0)") + Script.times(10, m -> "wait(" + m + ") = " + m),
                Halls.members(2) + "ask(0, 1); ask(0, 2); ask(1, 1); ask(1, 0); wait(1) = 0");
        b.sentence("Promise 13", "BEYOND.",
                "wait(0) = BEYOND; member(0, 0); ask(0, 0);" + Script.each("wait(#) = BEYOND", -1, 1, 10, LEAST, MOST) + "wait(0) = 0",
                Halls.members(10) + "ask(9, 0); wait(9) = 0; wait(10) = BEYOND",
                Halls.RICH + "wait(7) = BEYOND; wait(-1) = BEYOND");
        b.sentence("Promise 13", "NONE: it asks for no SPEECH, or is not PRESENT.",
                "member(0, 0); wait(0) = NONE; ask(0, 1); wait(0) = NONE; ask(0, 2); wait(0) = NONE; ask(0, 0); wait(0) = 0; present(0, false); wait(0) = NONE;"
                        + "present(0, true); wait(0) = 0; begin(); wait(0) = 0; withdraw(0, 0); wait(0) = NONE",
                "member(0, 0); ask(0, 0); begin(); wait(0) = NONE; floor(2) = 10; told(3) = 0",
                "member(0, 0); member(2, 0); key(9); ask(0, 0); ask(1, 0); wait(0) = NEVER; present(0, false); wait(0) = NONE",
                Halls.RICH + "wait(5) = NONE; wait(0) = NONE; wait(3) = 0");
        b.sentence("Promise 13", "NEVER.",
                BEHIND_BY_TICKS + "tick(49); yield();" + THEN_BOTH_ASK + "wait(0) = 99; wait(1) = 0; told(4) = 0",
                BEHIND_BY_TICKS + "tick(50);" + THEN_BOTH_ASK + "wait(0) = NEVER; wait(1) = 0; told(4) = 1",
                BEHIND_BY_TICKS + "tick(50); ask(0, 0); begin(); tick(1); yield();" + THEN_BOTH_ASK + "wait(0) = NEVER",
                Halls.RICH + "noKeys(); key(9); present(5, true); wait(3) = NEVER; wait(5) = 0");
    }

    private static void fits(Bounds b) {
        b.sentence("Promise 14", "How many of THE LIST FIT in t TICKS.",
                "fits(0, false) = 0; fits(1000, true) = 0; member(0, 0); fits(1000, false) = 0; ask(0, 2); fits(0, false) = 0; fits(1, true) = 0; fits(2, false) = 1; fits(2, true) = 1",
                Script.times(7, m -> "member(3, 0)") + "limit(0, 50); limit(1, 50); limit(2, 50);" + Halls.askings(20)
                        + "fits(1000, false) = 10; fits(1000, true) = 10; fits(999, false) = 9; fits(999, true) = 9; fits(100, false) = 1; fits(99, true) = 0; fits(0, true) = 0",
                Halls.members(7) + "limit(0, 50); limit(1, 50); limit(2, 50);" + Halls.askings(20) + "fits(1000, false) = 20; fits(999, false) = 19; fits(999, true) = 19",
                Halls.members(7) + "limit(0, 1); limit(1, 1); limit(2, 1);" + Halls.askings(20) + "fits(20, false) = 20; fits(19, false) = 19; fits(1, false) = 1; fits(0, true) = 0");
        b.sentence("Promise 14", "BEYOND: t is not 0 to 1000.",
                Script.each("fits(#, false) = BEYOND", -1, 1001, LEAST, MOST) + Script.each("fits(#, true) = BEYOND", -1, 1001, LEAST, MOST) + "fits(0, false) = 0; fits(1000, true) = 0",
                Halls.RICH + "fits(-1, true) = BEYOND; fits(1001, false) = BEYOND; fits(1000, false) = 5");
    }
}
