/** Promises 1 to 6, sentence by sentence. */
final class MembersBounds {
    private static final int LEAST = Halls.LEAST;
    private static final int MOST = Halls.MOST;

    private MembersBounds() { }

    static void all(Bounds b) {
        newObject(b);
        member(b);
        as(b);
        present(b);
        of(b);
        time(b);
    }

    private static void newObject(Bounds b) {
        b.sentence("Promise 1", "Nobody, no ASKINGS, no KEYS, no VOTE, no MINUTES; sheets MISSING.",
                Script.each("told(#) = 0", 0, 1, 2, 3, 4, 5, 6),
                "of(0, 0) = BEYOND; as(0, 0) = BEYOND; present(0, true) = BEYOND; ask(0, 0) = BEYOND; sum(0, 0) = BEYOND; member(0, 0) = 0",
                "listed(0, false) = NONE; listed(0, true) = NONE; begin() = NONE; fits(1000, true) = 0; member(0, 0); withdraw(0, 0) = NONE; ask(0, 0) = 1",
                "noKeys() = 0; " + Script.times(6, i -> "key(" + (i + 4) + ") = " + (i + 1)),
                "close(1) = NONE; votes(0) = NONE; vote() = 1",
                "minutes(0, 0) = BEYOND; right(0, 0) = BEYOND; member(0, 0); sum(0, 0) = 0; sum(0, 1) = BEYOND",
                Script.each("read(#) = MISSING", 0, 1, 2, 3) + Script.each("put(#, 0, 1) = MISSING", 0, 1, 2, 3),
                "floor(0) = NONE; floor(1) = NONE; floor(2) = NONE; floor(3) = 0; yield() = NONE; tick(100) = 0",
                "apart() = 0; uneven(false) = 0; uneven(true) = 1; " + Script.each("time(#) = 0", 0, 1, 2, 3, 4));
    }

    private static void member(Bounds b) {
        b.sentence("Promise 2", "A new member: its number.",
                Script.times(10, m -> "member(" + m % 4 + ", " + m % 5 + ") = " + m + "; told(0) = " + (m + 1)),
                Halls.RICH + "member(0, 0) = 7; of(7, 2) = 1; of(7, 3) = 0; of(7, 4) = 0; member(3, 4) = 8");
        b.sentence("Promise 2", "BEYOND: no such kind, or DELEGATION.",
                Script.each("member(#, 0) = BEYOND", -1, 4, LEAST, MOST) + "told(0) = 0; member(0, 0) = 0; member(3, 0) = 1",
                Script.each("member(0, #) = BEYOND", -1, 5, LEAST, MOST) + "told(0) = 0; member(0, 0) = 0; member(0, 4) = 1",
                "member(-1, 5) = BEYOND; member(4, -1) = BEYOND",
                Halls.RICH + "member(4, 0) = BEYOND; member(0, 5) = BEYOND; member(-1, 0) = BEYOND; member(0, -1) = BEYOND; member(0, 0) = 7");
        b.sentence("Promise 2", "FULL: there are 10.",
                Halls.members(9) + "member(3, 4) = 9; member(3, 4) = FULL; member(0, 0) = FULL; told(0) = 10; of(9, 0) = 3; of(9, 1) = 4",
                Halls.members(10) + "present(9, false); member(0, 0) = FULL; of(9, 2) = 0",
                Halls.members(10) + "member(4, 0) = BEYOND; member(-1, 0) = BEYOND; member(0, 5) = BEYOND; member(0, -1) = BEYOND; member(0, 0) = FULL",
                Halls.RICH + "member(0, 0) = 7; member(0, 0) = 8; member(0, 0) = 9; member(0, 0) = FULL");
    }

    private static void as(Bounds b) {
        b.sentence("Promise 3", "A member as one of a kind: its number.",
                Script.times(10, m -> "member(0, 0); as(" + m + ", 0) = " + m),
                "member(0, 0); member(1, 0); member(2, 0); member(3, 0);"
                        + "as(0, 0) = 0; as(1, 0) = 1; as(1, 1) = 1; as(2, 0) = 2; as(2, 2) = 2; as(3, 0) = 3; as(3, 1) = 3; as(3, 3) = 3",
                "member(3, 0); present(0, false); as(0, 1) = 0");
        b.sentence("Promise 3", "BEYOND: no such member, or kind.",
                "as(0, 0) = BEYOND; member(2, 0); as(0, 0) = 0; as(0, 2) = 0;" + Script.each("as(#, 0) = BEYOND", -1, 1, 10, LEAST, MOST)
                        + Script.each("as(0, #) = BEYOND", -1, 4, LEAST, MOST),
                Halls.members(10) + "as(9, 0) = 9; as(10, 0) = BEYOND; as(10, 3) = BEYOND; as(-1, 4) = BEYOND",
                "member(3, 0); as(0, 3) = 0; as(0, 4) = BEYOND; as(0, -1) = BEYOND",
                Halls.RICH + "as(7, 0) = BEYOND; as(6, 0) = 6; as(6, 4) = BEYOND; as(6, -1) = BEYOND");
        b.sentence("Promise 3", "KIND: it is not of that kind, nor of one under it.",
                "member(0, 0); member(1, 0); member(2, 0); member(3, 0); as(0, 1) = KIND; as(0, 2) = KIND; as(0, 3) = KIND;"
                        + "as(1, 2) = KIND; as(1, 3) = KIND; as(2, 1) = KIND; as(2, 3) = KIND; as(3, 2) = KIND",
                Halls.RICH + "as(6, 3) = KIND; as(3, 2) = KIND");
    }

    private static void present(Bounds b) {
        b.sentence("Promise 4", "A member is PRESENT, or not: 1 if that is new, else 0.",
                "member(0, 0); present(0, true) = 0; of(0, 2) = 1; present(0, false) = 1; of(0, 2) = 0; present(0, false) = 0;"
                        + "of(0, 2) = 0; present(0, true) = 1; of(0, 2) = 1; present(0, true) = 0; told(4) = 0",
                Halls.members(10) + "present(9, false) = 1; present(0, false) = 1; of(8, 2) = 1; of(1, 2) = 1; of(9, 2) = 0; present(9, true) = 1; of(0, 2) = 0");
        b.sentence("Promise 4", "BEYOND.",
                "present(0, true) = BEYOND; present(0, false) = BEYOND; member(0, 0) = 0; of(0, 2) = 1; present(0, false) = 1;"
                        + Script.each("present(#, true) = BEYOND", -1, 1, 9, 10, LEAST, MOST) + Script.each("present(#, false) = BEYOND", -1, 1, 10, LEAST, MOST)
                        + "member(0, 0) = 1; of(1, 2) = 1",
                Halls.members(10) + "present(10, false) = BEYOND; present(9, false) = 1",
                Halls.RICH + "present(7, false) = BEYOND; present(-1, false) = BEYOND; member(0, 0) = 7; of(7, 2) = 1");
    }

    private static void of(Bounds b) {
        b.sentence("Promise 5", "Of a member: 0 its kind, 1 DELEGATION, 2 whether PRESENT (1, 0), 3 TIME, 4 SPEECHES.",
                "member(3, 4); of(0, 0) = 3; of(0, 1) = 4; of(0, 2) = 1; of(0, 3) = 0; of(0, 4) = 0; present(0, false); of(0, 2) = 0;"
                        + "present(0, true); ask(0, 0); begin(); of(0, 3) = 0; of(0, 4) = 1; tick(20) = 20; of(0, 3) = 20; of(0, 4) = 1",
                Halls.members(9) + "member(2, 3); ask(9, 1); begin(); tick(1); of(9, 0) = 2; of(9, 1) = 3; of(9, 2) = 1; of(9, 3) = 1; of(9, 4) = 0; of(8, 3) = 0");
        b.sentence("Promise 5", "BEYOND: no such member, or another what.",
                "of(0, 0) = BEYOND; member(0, 0); of(0, 0) = 0;" + Script.each("of(#, 0) = BEYOND", -1, 1, 10, LEAST, MOST)
                        + "of(0, 4) = 0;" + Script.each("of(0, #) = BEYOND", -1, 5, LEAST, MOST) + "of(1, 5) = BEYOND",
                Halls.members(10) + "of(9, 4) = 0; of(10, 4) = BEYOND; of(9, 5) = BEYOND",
                Halls.RICH + "of(7, 0) = BEYOND; of(6, 5) = BEYOND; of(6, -1) = BEYOND");
    }

    private static void time(Bounds b) {
        b.sentence("Promise 6", "TIME of a DELEGATION.",
                Script.times(5, d -> "member(0, " + d + "); limit(0, " + (d + 11) + "); ask(" + d + ", 0); begin(); tick(100) = " + (d + 11))
                        + Script.times(5, d -> "time(" + d + ") = " + (d + 11)),
                "member(0, 4); member(1, 4);" + Halls.speech(0, 2) + Halls.speech(1, 5) + "present(1, false); time(4) = 7; time(3) = 0; time(0) = 0");
        b.sentence("Promise 6", "BEYOND.",
                Script.each("time(#) = BEYOND", -1, 5, LEAST, MOST) + "time(0) = 0; time(4) = 0",
                Halls.RICH + "time(-1) = BEYOND; time(5) = BEYOND; time(0) = 6; time(4) = 0");
    }
}
