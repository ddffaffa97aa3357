/** Promises 15 to 20, sentence by sentence. */
final class FloorBounds {
    private static final int LEAST = Halls.LEAST;
    private static final int MOST = Halls.MOST;

    private FloorBounds() { }

    static void all(Bounds b) {
        begin(b);
        cut(b);
        tick(b);
        yielding(b);
        floor(b);
        limit(b);
    }

    private static void begin(Bounds b) {
        b.sentence("Promise 15", "NEXT TAKES THE FLOOR: the member.",
                "member(0, 0); ask(0, 0); begin() = 0; floor(0) = 0; told(1) = 0; told(4) = 0",
                Halls.members(10) + "ask(9, 2); ask(0, 0); begin() = 9; floor(1) = 2; told(1) = 1; of(9, 4) = 0; tick(2); begin() = 0; of(0, 4) = 1",
                "member(0, 0); member(2, 0); member(2, 0); key(9); ask(0, 0); ask(1, 1); ask(2, 0); present(1, false); begin() = 2; present(1, true); yield(); begin() = 1");
        b.sentence("Promise 15", "BUSY: somebody has it.",
                "member(0, 0); member(0, 0); ask(0, 0); ask(1, 0); begin() = 0; begin() = BUSY; told(1) = 1; of(1, 4) = 0; tick(9) = 9; begin() = BUSY; tick(1) = 1; begin() = 1",
                "member(0, 0); ask(0, 0); begin() = 0; begin() = BUSY; yield() = -1; begin() = NONE",
                "member(0, 0); ask(0, 0); begin() = 0; present(0, false); begin() = BUSY",
                "member(0, 0); member(0, 1); ask(0, 0); ask(1, 2); begin() = 0; cut() = 1; yield() = 0; begin() = BUSY",
                Halls.RICH + "begin() = BUSY");
        b.sentence("Promise 15", "NONE: THE LIST is empty.",
                "begin() = NONE; member(0, 0); begin() = NONE; ask(0, 0); present(0, false); begin() = NONE; told(1) = 1; floor(0) = NONE; present(0, true); begin() = 0",
                "member(0, 0); ask(0, 1); withdraw(0, 1); begin() = NONE; told(3) = 0",
                Halls.RICH + "tick(100) = 9; withdraw(0, 1); withdraw(2, 2); withdraw(6, 1); withdraw(6, 2); withdraw(3, 0) = 1; begin() = NONE; present(5, true); begin() = 5");
    }

    private static void cut(Bounds b) {
        b.sentence("Promise 16", "The first POINT of THE LIST TAKES THE FLOOR; who has it is BEHIND with what it has LEFT: the member that has it now.",
                "member(0, 0); member(0, 1); ask(0, 0); begin(); tick(9); ask(1, 2); cut() = 1; floor(0) = 1; floor(1) = 2; floor(2) = 2; floor(3) = 1; told(1) = 0; told(3) = 0;"
                        + "tick(2) = 2; floor(0) = 0; floor(1) = 0; floor(2) = 1; floor(3) = 0; tick(100) = 1",
                "member(0, 0); member(0, 1); member(2, 2); ask(0, 2); begin(); ask(1, 2); ask(2, 0); ask(2, 1); ask(2, 2); key(9); cut() = 2; floor(1) = 2; told(1) = 3; cut() = 1; floor(3) = 2",
                "member(0, 0); ask(0, 0); begin(); ask(0, 2); cut() = 0; floor(1) = 2; floor(3) = 1; yield() = 0; floor(1) = 0; floor(2) = 10",
                Halls.members(5) + Halls.cuts(3) + "ask(4, 2); cut() = 4; floor(3) = 4");
        b.sentence("Promise 16", "NONE: nobody has THE FLOOR, or there is no POINT.",
                "cut() = NONE; member(0, 0); member(0, 1); ask(1, 2); cut() = NONE; told(1) = 1; floor(0) = NONE; withdraw(1, 2); ask(0, 0); begin(); cut() = NONE;"
                        + "ask(1, 0); ask(1, 1); cut() = NONE; ask(1, 2); present(1, false); cut() = NONE; floor(3) = 0; present(1, true); cut() = 1",
                "member(0, 0); ask(0, 0); begin(); ask(0, 2); tick(10); cut() = NONE; told(1) = 1",
                Halls.members(5) + Halls.cuts(4) + "cut() = NONE; ask(0, 0); ask(0, 1); cut() = NONE; ask(0, 2); present(0, false); cut() = NONE; present(0, true); cut() = FULL",
                Halls.RICH + "withdraw(2, 2); withdraw(6, 2); cut() = NONE");
        b.sentence("Promise 16", "FULL: 4 are BEHIND.",
                Halls.members(6) + Halls.cuts(4) + "floor(3) = 4; ask(5, 2); cut() = FULL; floor(0) = 4; floor(2) = 2; floor(3) = 4; told(1) = 1; tick(2); floor(3) = 3; cut() = 5; floor(3) = 4;"
                        + "ask(4, 2); cut() = FULL",
                "member(0, 0); ask(0, 0); begin();" + Script.times(4, i -> "ask(0, 2); cut() = 0") + "ask(0, 2); cut() = FULL; floor(3) = 4",
                Halls.RICH + "cut() = 6; cut() = 2; ask(0, 2); cut() = 0; floor(3) = 4; ask(4, 2); cut() = FULL; yield() = 2; cut() = 4");
    }

    private static void tick(Bounds b) {
        b.sentence("Promise 17", "n TICKS go by (1 to 100): in how many somebody had THE FLOOR.",
                "tick(1) = 0; tick(100) = 0; told(4) = 0; member(0, 0); ask(0, 0); begin(); tick(1) = 1; floor(2) = 9; tick(8) = 8; floor(2) = 1; told(3) = 0; tick(1) = 1; floor(0) = NONE;"
                        + "told(3) = 1; tick(1) = 0; of(0, 3) = 10",
                "member(3, 0); limit(0, 50); ask(0, 0); ask(0, 1); begin(); tick(100) = 100; floor(0) = NONE; minutes(0, 3) = 100; begin(); tick(100) = 8; of(0, 3) = 108",
                "member(3, 0); limit(0, 50); ask(0, 0); begin(); tick(99) = 99; floor(2) = 1; tick(100) = 1; told(3) = 1",
                Halls.members(5) + Halls.cuts(4) + "tick(100) = 18; told(3) = 5; floor(3) = 0; floor(0) = NONE",
                Halls.members(5) + Halls.cuts(4) + "tick(8) = 8; floor(0) = 0; floor(2) = 10; told(3) = 4; tick(10) = 10; told(3) = 5",
                Halls.members(5) + Halls.cuts(4) + "tick(9) = 9; floor(2) = 9; time(0) = 1; time(4) = 2");
        b.sentence("Promise 17", "BEYOND.",
                "member(0, 0); ask(0, 0); begin();" + Script.each("tick(#) = BEYOND", 0, 101, -1, LEAST, MOST) + "floor(2) = 10; of(0, 3) = 0",
                Script.each("tick(#) = BEYOND", 0, 101, -1, LEAST, MOST) + "tick(1) = 0; tick(100) = 0",
                Halls.RICH + "tick(0) = BEYOND; tick(101) = BEYOND; tick(1) = 1");
    }

    private static void yielding(Bounds b) {
        b.sentence("Promise 18", "Who has THE FLOOR ENDS: who has it then (-1: nobody, no finding).",
                "member(0, 0); ask(0, 0); begin(); yield() = -1; told(4) = 0; told(3) = 1; minutes(0, 0) = 0; minutes(0, 1) = 0; minutes(0, 3) = 0; of(0, 4) = 1; of(0, 3) = 0",
                Halls.members(5) + Halls.cuts(4) + "yield() = 3; yield() = 2; yield() = 1; yield() = 0; yield() = -1; told(3) = 5; told(4) = 0",
                "member(0, 0); ask(0, 0); begin(); ask(0, 2); cut(); yield() = 0; yield() = -1");
        b.sentence("Promise 18", "NONE: nobody has it.",
                "yield() = NONE; told(3) = 0; member(0, 0); ask(0, 0); yield() = NONE; begin(); yield() = -1; yield() = NONE; told(3) = 1",
                "member(0, 0); ask(0, 0); begin(); tick(9) = 9; tick(1) = 1; yield() = NONE; told(3) = 1",
                Halls.RICH + "tick(100) = 9; yield() = NONE");
    }

    private static void floor(Bounds b) {
        b.sentence("Promise 19", "Of THE FLOOR: 0 who has it, 1 for which SORT, 2 TICKS LEFT, 3 how many are BEHIND.",
                Halls.members(10) + "ask(9, 1); begin(); tick(3); floor(0) = 9; floor(1) = 1; floor(2) = 1; floor(3) = 0",
                "member(0, 0); ask(0, 0); begin(); floor(0) = 0; floor(1) = 0; floor(2) = 10; floor(3) = 0",
                Halls.members(5) + Halls.cuts(4) + "floor(0) = 4; floor(1) = 2; floor(2) = 2; floor(3) = 4",
                "floor(3) = 0; told(4) = 0");
        b.sentence("Promise 19", "BEYOND: another what.",
                Script.each("floor(#) = BEYOND", -1, 4, LEAST, MOST) + "floor(3) = 0; floor(0) = NONE",
                Halls.RICH + Script.each("floor(#) = BEYOND", -1, 4, LEAST, MOST) + "floor(0) = 1; floor(3) = 1");
        b.sentence("Promise 19", "NONE: (of 0 to 2) nobody has it.",
                "floor(0) = NONE; floor(1) = NONE; floor(2) = NONE; floor(3) = 0; floor(4) = BEYOND; floor(-1) = BEYOND",
                "member(0, 0); ask(0, 0); floor(0) = NONE; begin(); floor(0) = 0; tick(10); floor(0) = NONE; floor(1) = NONE; floor(2) = NONE; floor(3) = 0",
                Halls.RICH + "tick(100) = 9; floor(0) = NONE; floor(1) = NONE; floor(2) = NONE; floor(3) = 0");
    }

    private static void limit(Bounds b) {
        b.sentence("Promise 20", "The LIMIT of a SORT becomes v: what it was.",
                "limit(0, 1) = 10; limit(1, 1) = 4; limit(2, 1) = 2; limit(0, 50) = 1; limit(1, 50) = 1; limit(2, 50) = 1; limit(0, 50) = 50; limit(2, 7) = 50; limit(1, 4) = 50; limit(2, 2) = 7",
                "member(0, 0); limit(0, 1); ask(0, 0); begin(); floor(2) = 1; tick(1) = 1; floor(0) = NONE; limit(1, 50); ask(0, 1); begin(); floor(2) = 50; tick(100) = 50",
                "member(3, 0); limit(2, 50); ask(0, 2); begin(); floor(2) = 100; limit(2, 1) = 50; yield(); ask(0, 2); begin(); floor(2) = 2");
        b.sentence("Promise 20", "BEYOND.",
                Script.each("limit(#, 1) = BEYOND", -1, 3, LEAST, MOST) + Script.each("limit(0, #) = BEYOND", 0, 51, -1, LEAST, MOST) + Script.each("limit(2, #) = BEYOND", 0, 51)
                        + "limit(3, 51) = BEYOND; limit(0, 1) = 10; limit(0, 50) = 1; limit(2, 50) = 2",
                Halls.RICH + "limit(1, 0) = BEYOND; limit(1, 51) = BEYOND; limit(3, 1) = BEYOND; limit(-1, 1) = BEYOND; limit(1, 9) = 6");
        b.sentence("Promise 20", "(What is LEFT stays.)",
                "member(0, 0); ask(0, 0); begin(); tick(3); limit(0, 1) = 10; floor(2) = 7; limit(0, 50) = 1; floor(2) = 7; tick(100) = 7; minutes(0, 3) = 10",
                "member(0, 0); member(0, 1); ask(0, 0); begin(); tick(3); ask(1, 2); cut(); limit(0, 1); limit(2, 1); floor(2) = 2; yield(); floor(2) = 7");
    }
}
