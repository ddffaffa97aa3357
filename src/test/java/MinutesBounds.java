/** Promises 26 to 30, sentence by sentence. */
final class MinutesBounds {
    private static final int LEAST = Halls.LEAST;
    private static final int MOST = Halls.MOST;
    private static final String HUNDRED_ROWS = Halls.members(5) + Halls.fiveRows(20);

    private MinutesBounds() { }

    static void all(Bounds b) {
        apart(b);
        uneven(b);
        minutes(b);
        right(b);
        sum(b);
    }

    private static void apart(Bounds b) {
        b.sentence("Promise 26", "TIME of the DELEGATION with most, less that of the one with least, of those that have a member (0 without any).",
                "apart() = 0; member(0, 4); apart() = 0;" + Halls.speech(0, 7) + "apart() = 0; member(0, 4); apart() = 0; member(0, 0); apart() = 7; present(2, false); apart() = 7",
                Halls.members(5) + Script.times(5, m -> Halls.speech(m, m + 3)) + "apart() = 4;" + Halls.speech(0, 9) + "apart() = 8",
                "member(0, 1); member(1, 3);" + Halls.speech(0, 5) + Halls.speech(1, 2) + "apart() = 3;" + Halls.speech(1, 3) + "apart() = 0; told(4) = 0");
    }

    private static void uneven(Bounds b) {
        b.sentence("Promise 27", "UNEVEN: above (below) the line.",
                "uneven(false) = 0; uneven(true) = 1; member(0, 0); member(0, 1); uneven(false) = 0; uneven(true) = 1;" + Halls.speech(0, 6) + "uneven(false) = 1; uneven(true) = 2;"
                        + Halls.speech(1, 2) + "uneven(false) = 1; uneven(true) = 4; told(4) = 0");
    }

    private static void minutes(Bounds b) {
        b.sentence("Promise 28", "Of row i of MINUTES: 0 the member, 1 the SORT, 2 TICKS as put right latest, 3 its first TICKS.",
                "member(0, 0); member(0, 1); ask(1, 1); begin(); tick(3); yield(); minutes(0, 0) = 1; minutes(0, 1) = 1; minutes(0, 2) = 3; minutes(0, 3) = 3;"
                        + "right(0, 200); minutes(0, 2) = 200; minutes(0, 3) = 3; right(0, 0); minutes(0, 2) = 0; minutes(0, 3) = 3",
                HUNDRED_ROWS + "minutes(0, 0) = 4; minutes(0, 1) = 2; minutes(0, 2) = 2; minutes(0, 3) = 2; minutes(99, 0) = 0; minutes(99, 1) = 0; minutes(99, 2) = 10; minutes(99, 3) = 10;"
                        + "right(99, 7); minutes(99, 2) = 7; minutes(99, 3) = 10; minutes(98, 2) = 2");
        b.sentence("Promise 28", "BEYOND: no such row, or another what.",
                "minutes(0, 0) = BEYOND; member(0, 0);" + Halls.speech(0, 4) + "minutes(0, 0) = 0;" + Script.each("minutes(#, 0) = BEYOND", -1, 1, 99, 100, LEAST, MOST)
                        + "minutes(0, 3) = 4;" + Script.each("minutes(0, #) = BEYOND", -1, 4, LEAST, MOST) + "minutes(1, 4) = BEYOND",
                HUNDRED_ROWS + "minutes(99, 3) = 10; minutes(100, 3) = BEYOND; minutes(99, 4) = BEYOND; minutes(-1, 0) = BEYOND;" + Halls.speech(0, 1) + "minutes(99, 3) = 1; minutes(100, 3) = BEYOND",
                Halls.RICH + "minutes(3, 0) = BEYOND; minutes(-1, 0) = BEYOND; minutes(2, 4) = BEYOND; minutes(2, -1) = BEYOND; minutes(2, 3) = 3");
    }

    private static void right(Bounds b) {
        b.sentence("Promise 29", "Row i is PUT RIGHT to TICKS (0 to 200): the count.",
                "member(0, 0);" + Halls.speech(0, 4) + Halls.speech(0, 5) + "right(0, 0) = 1; minutes(0, 2) = 0; right(1, 200) = 2; minutes(1, 2) = 200; right(0, 200) = 3; minutes(0, 2) = 200;"
                        + "right(0, 4) = 4; minutes(0, 2) = 4; minutes(1, 2) = 200; told(5) = 4; of(0, 3) = 9; time(0) = 9",
                HUNDRED_ROWS + "right(99, 1) = 1; right(0, 3) = 2; minutes(99, 2) = 1; minutes(0, 2) = 3; minutes(1, 2) = 2; minutes(98, 2) = 2");
        b.sentence("Promise 29", "BEYOND.",
                "right(0, 0) = BEYOND; member(0, 0);" + Halls.speech(0, 4) + Script.each("right(#, 0) = BEYOND", -1, 1, 99, LEAST, MOST)
                        + Script.each("right(0, #) = BEYOND", -1, 201, LEAST, MOST) + "right(1, 201) = BEYOND; told(5) = 0; minutes(0, 2) = 4; right(0, 200) = 1; right(0, 0) = 2",
                HUNDRED_ROWS + "right(100, 0) = BEYOND; right(99, 201) = BEYOND; right(99, 200) = 1",
                Halls.RICH + "right(3, 1) = BEYOND; right(-1, 1) = BEYOND; right(2, 201) = BEYOND; right(2, -1) = BEYOND; right(2, 1) = 4");
        b.sentence("Promise 29", "FULL: 40 times it was done.",
                "member(0, 0);" + Halls.speech(0, 4) + Script.times(39, i -> "right(0, " + i + ") = " + (i + 1)) + "right(0, 200) = 40; right(0, 1) = FULL; minutes(0, 2) = 200; told(5) = 40;"
                        + "right(1, 1) = BEYOND; right(0, 201) = BEYOND; right(0, -1) = BEYOND; right(0, 200) = FULL",
                "member(0, 0);" + Halls.speech(0, 4) + Halls.speech(0, 5) + Script.times(40, i -> "right(0, 7)") + "right(1, 7) = FULL; minutes(1, 2) = 5;" + Halls.speech(0, 6) + "right(2, 7) = FULL",
                Halls.RICH + Script.times(37, i -> "right(2, " + i + ") = " + (i + 4)) + "right(0, 1) = FULL; right(2, 1) = FULL; minutes(0, 2) = 5; minutes(2, 2) = 36",
                HUNDRED_ROWS + Script.times(40, i -> "right(0, 9)") + "right(99, 1) = FULL;" + Halls.speech(0, 1) + "right(99, 5) = FULL; right(0, 5) = FULL");
    }

    private static void sum(Bounds b) {
        b.sentence("Promise 30", "The sum of TICKS of a member in MINUTES AS of count k.",
                "member(0, 0); sum(0, 0) = 0; member(0, 1);" + Halls.speech(0, 4) + Halls.speech(1, 5) + Halls.speech(0, 6) + "sum(0, 0) = 10; sum(1, 0) = 5; right(0, 200); right(2, 0); right(1, 9);"
                        + "sum(0, 0) = 10; sum(0, 1) = 206; sum(0, 2) = 200; sum(0, 3) = 200; sum(1, 2) = 5; sum(1, 3) = 9",
                HUNDRED_ROWS + "sum(0, 0) = 200; sum(4, 0) = 40; right(99, 110) = 1; sum(0, 1) = 300; sum(0, 0) = 200; right(0, 0) = 2; sum(4, 2) = 38; sum(4, 1) = 40",
                "member(0, 0);" + Halls.speech(0, 4) + Script.times(40, i -> "right(0, " + (100 + i) + ")") + "sum(0, 40) = 139; sum(0, 39) = 138; sum(0, 1) = 100; sum(0, 0) = 4");
        b.sentence("Promise 30", "BEYOND: no such member, or k is below 0 or above the latest count.",
                "sum(0, 0) = BEYOND; member(0, 0); sum(0, 0) = 0;" + Script.each("sum(#, 0) = BEYOND", -1, 1, 10, LEAST, MOST) + Script.each("sum(0, #) = BEYOND", -1, 1, LEAST, MOST)
                        + Halls.speech(0, 4) + "sum(0, 1) = BEYOND; right(0, 1); sum(0, 1) = 1; sum(0, 2) = BEYOND; sum(1, 2) = BEYOND; sum(0, -1) = BEYOND",
                "member(0, 0);" + Halls.speech(0, 4) + Script.times(40, i -> "right(0, 9)") + "sum(0, 40) = 9; sum(0, 41) = BEYOND; right(0, 1) = FULL; sum(0, 41) = BEYOND",
                Halls.members(10) + "sum(9, 0) = 0; sum(10, 0) = BEYOND",
                Halls.RICH + "sum(7, 0) = BEYOND; sum(-1, 0) = BEYOND; sum(0, 4) = BEYOND; sum(0, -1) = BEYOND; sum(0, 3) = 5; sum(0, 2) = 7; sum(0, 0) = 4");
    }
}
