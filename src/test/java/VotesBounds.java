/** Promises 21 to 25, sentence by sentence. */
final class VotesBounds {
    private static final int LEAST = Halls.LEAST;
    private static final int MOST = Halls.MOST;
    /** So many say yes and so many no, of ten. */
    private static String said(int yes, int no) {
        return Halls.members(10) + "vote();" + Script.times(yes, m -> "say(" + m + ", 1)") + Script.times(no, m -> "say(" + (9 - m) + ", 2)");
    }

    private VotesBounds() { }

    static void all(Bounds b) {
        vote(b);
        say(b);
        votes(b);
        close(b);
        hands(b);
    }

    private static void vote(Bounds b) {
        b.sentence("Promise 21", "THE VOTE is opened, nothing said: 1.",
                "vote() = 1; told(6) = 1; votes(0) = 0; votes(1) = 0; votes(2) = 0",
                Halls.members(10) + "vote() = 1; votes(0) = 10; say(0, 1); say(9, 2); close(1) = 0; vote() = 1; votes(0) = 10; votes(1) = 0; votes(2) = 0; say(0, 2) = 0; say(9, 1) = 0",
                "member(0, 0); vote(); say(0, 1); present(0, false); close(1) = 0; vote() = 1; present(0, true); votes(1) = 0; votes(0) = 1");
        b.sentence("Promise 21", "BUSY: it is open.",
                "vote() = 1; vote() = BUSY; told(6) = 1; close(1) = 0; vote() = 1; vote() = BUSY",
                "member(0, 0); vote() = 1; say(0, 2); vote() = BUSY; votes(2) = 1; close(4) = BEYOND; vote() = BUSY; say(0, 0) = 2",
                Halls.RICH + "vote() = BUSY; votes(1) = 2; votes(2) = 1");
    }

    private static void say(Bounds b) {
        b.sentence("Promise 22", "A member says yes (1), no (2), or neither (0): what it said.",
                "member(0, 0); vote(); say(0, 0) = 0; say(0, 1) = 0; say(0, 1) = 1; say(0, 2) = 1; say(0, 2) = 2; say(0, 0) = 2; say(0, 2) = 0; say(0, 1) = 2; say(0, 0) = 1",
                Halls.members(10) + "vote(); say(9, 2) = 0; say(0, 1) = 0; say(9, 1) = 2; say(0, 2) = 1; votes(1) = 1; votes(2) = 1; votes(0) = 8",
                "vote(); member(2, 0); say(0, 1) = 0; present(0, false); present(0, true); say(0, 2) = 1");
        b.sentence("Promise 22", "BEYOND: no such member, or v.",
                "say(0, 1) = BEYOND; vote(); say(0, 1) = BEYOND; member(0, 0);" + Script.each("say(#, 1) = BEYOND", -1, 1, 10, LEAST, MOST) + Script.each("say(0, #) = BEYOND", -1, 3, LEAST, MOST)
                        + "votes(0) = 1; say(0, 2) = 0; say(0, 0) = 2",
                "member(1, 0); say(0, 3) = BEYOND; say(1, 1) = BEYOND; say(0, -1) = BEYOND; vote(); say(0, 3) = BEYOND; say(1, 1) = BEYOND; present(0, false); say(0, -1) = BEYOND",
                Halls.members(10) + "vote(); say(10, 1) = BEYOND; say(9, 3) = BEYOND; say(9, 2) = 0",
                Halls.RICH + "say(7, 1) = BEYOND; say(-1, 1) = BEYOND; say(0, 3) = BEYOND; say(0, -1) = BEYOND; say(0, 2) = 1");
        b.sentence("Promise 22", "NONE: THE VOTE is not open.",
                "member(0, 0); say(0, 0) = NONE; say(0, 1) = NONE; vote(); votes(1) = 0; say(0, 1) = 0; close(1) = 1; say(0, 2) = NONE; vote(); say(0, 0) = 0",
                "member(1, 0); member(3, 0); member(0, 0); present(2, false); say(0, 1) = NONE; say(1, 1) = NONE; say(2, 1) = NONE",
                Halls.RICH + "close(1) = 1; say(0, 2) = NONE; say(1, 2) = NONE");
        b.sentence("Promise 22", "KIND: it may not VOTE.",
                "member(1, 0); member(3, 0); member(2, 0); member(0, 0); vote(); say(0, 1) = KIND; say(1, 1) = KIND; say(0, 0) = KIND; say(2, 1) = 0; say(3, 2) = 0",
                "member(0, 0); vote(); say(0, 1) = 0; present(0, false); say(0, 2) = KIND; say(0, 0) = KIND; present(0, true); say(0, 0) = 1",
                Halls.RICH + "say(1, 1) = KIND; say(3, 1) = KIND; say(5, 1) = KIND; say(6, 1) = 0");
    }

    private static void votes(Bounds b) {
        b.sentence("Promise 23", "How many of those who MAY VOTE say yes (1), no (2), neither (0).",
                "vote(); votes(0) = 0; votes(1) = 0; votes(2) = 0; member(1, 0); member(3, 0); votes(0) = 0; member(0, 0); votes(0) = 1; member(2, 0); votes(0) = 2",
                said(10, 0) + "votes(1) = 10; votes(2) = 0; votes(0) = 0",
                said(0, 10) + "votes(1) = 0; votes(2) = 10; votes(0) = 0",
                said(3, 5) + "votes(1) = 3; votes(2) = 5; votes(0) = 2; present(0, false); present(9, false); present(3, false); votes(1) = 2; votes(2) = 4; votes(0) = 1");
        b.sentence("Promise 23", "BEYOND.",
                Script.each("votes(#) = BEYOND", -1, 3, LEAST, MOST) + "vote();" + Script.each("votes(#) = BEYOND", -1, 3, LEAST, MOST) + "votes(0) = 0; votes(2) = 0",
                Halls.RICH + "votes(-1) = BEYOND; votes(3) = BEYOND; votes(0) = 1; votes(2) = 1");
        b.sentence("Promise 23", "NONE: THE VOTE is not open.",
                "votes(0) = NONE; votes(1) = NONE; votes(2) = NONE; votes(3) = BEYOND; vote(); votes(0) = 0; close(3); votes(0) = NONE",
                Halls.RICH + "close(2) = 1; votes(0) = NONE; votes(1) = NONE; votes(2) = NONE; votes(-1) = BEYOND");
    }

    private static void close(Bounds b) {
        b.sentence("Promise 24", "Whether THE VOTE PASSES by a NEED: 1, 0; it is not open then.",
                Script.each("vote() = 1; close(#) = 0; told(6) = 0", 1, 2, 3),
                said(1, 0) + "close(1) = 1; told(6) = 0; vote() = 1; say(0, 1) = 0; close(2) = 1; told(6) = 0; vote() = 1; say(0, 1) = 0; close(3) = 1; told(6) = 0",
                said(5, 5) + "close(1) = 0; told(6) = 0",
                said(5, 4) + "close(1) = 1; told(6) = 0",
                said(4, 2) + "close(2) = 1", said(6, 3) + "close(2) = 1", said(5, 3) + "close(2) = 0",
                said(10, 0) + "close(3) = 1", said(9, 1) + "close(3) = 0");
        b.sentence("Promise 24", "BEYOND.",
                Script.each("close(#) = BEYOND", 0, 4, -1, LEAST, MOST) + "vote();" + Script.each("close(#) = BEYOND", 0, 4, -1, LEAST, MOST) + "told(6) = 1; close(3) = 0",
                Halls.RICH + "close(0) = BEYOND; close(4) = BEYOND; told(6) = 1; close(1) = 1");
        b.sentence("Promise 24", "NONE: it is not open.",
                "close(1) = NONE; close(2) = NONE; close(3) = NONE; close(4) = BEYOND; close(0) = BEYOND; told(6) = 0; vote() = 1; close(1) = 0; close(1) = NONE",
                Halls.RICH + "close(3) = 0; close(3) = NONE; close(1) = NONE; vote() = 1");
    }

    private static void hands(Bounds b) {
        b.sentence("Promise 25", "HANDS.",
                "hands(1, 1, 0, 0) = 1; hands(1, 0, 0, 0) = 0; hands(1, 0, 0, 1) = 2; hands(1, 1000, 999, 0) = 1; hands(1, 1000, 1000, 0) = 0; hands(1, 1000, 799, 100) = 1;"
                        + "hands(1, 1000, 800, 100) = 2; hands(1, 801, 1000, 100) = 2; hands(1, 800, 1000, 100) = 0; hands(1, 1000, 0, 100) = 1; hands(1, 0, 1000, 100) = 0",
                "hands(2, 1, 0, 0) = 1; hands(2, 0, 0, 0) = 0; hands(2, 1, 0, 1) = 2; hands(2, 1000, 500, 0) = 1; hands(2, 1000, 501, 0) = 0; hands(2, 1000, 350, 100) = 1;"
                        + "hands(2, 1000, 351, 100) = 2; hands(2, 1000, 650, 100) = 2; hands(2, 1000, 651, 100) = 0",
                "hands(3, 1, 0, 0) = 1; hands(3, 0, 0, 0) = 0; hands(3, 0, 0, 1) = 2; hands(3, 1000, 0, 0) = 1; hands(3, 1000, 1, 0) = 0; hands(3, 1000, 100, 100) = 2; hands(3, 1000, 101, 100) = 0",
                Halls.RICH + "hands(1, 5, 4, 0) = 1; votes(1) = 2; told(6) = 1");
        b.sentence("Promise 25", "BEYOND: no such NEED, or a, b not 0 to 1000, or e not 0 to 100.",
                Script.each("hands(#, 1, 1, 1) = BEYOND", 0, 4, -1, LEAST, MOST) + "hands(1, 1, 1, 1) = 2; hands(3, 1, 1, 1) = 2",
                Script.each("hands(1, #, 1, 1) = BEYOND", -1, 1001, LEAST, MOST) + "hands(1, 0, 1, 0) = 0; hands(1, 1000, 1, 0) = 1",
                Script.each("hands(2, 1, #, 1) = BEYOND", -1, 1001, LEAST, MOST) + "hands(2, 1, 0, 0) = 1; hands(2, 1, 1000, 0) = 0",
                Script.each("hands(3, 1, 1, #) = BEYOND", -1, 101, LEAST, MOST) + "hands(3, 1, 1, 0) = 0; hands(3, 1, 1, 100) = 2",
                Halls.RICH + "hands(0, 1, 1, 1) = BEYOND; hands(1, -1, 1, 1) = BEYOND; hands(1, 1, 1001, 1) = BEYOND; hands(1, 1, 1, 101) = BEYOND");
    }
}
