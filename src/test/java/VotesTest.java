/** Promises 21 to 25. */
public final class VotesTest {
    private static final Check check = new Check();

    public static void main(String[] args) {
        opening();
        saying();
        counting();
        closing();
        closingByEachNeed();
        handsAgainstAllCounts();
        handsBeyond();
        check.end();
    }

    private static SpeakHall hall(int... kinds) {
        SpeakHall x = new SpeakHall();
        for (int kind : kinds) {
            x.member(kind, 0);
        }
        return x;
    }

    private static void opening() {
        SpeakHall x = hall(0);
        check.due("vote()", x.vote(), 1);
        check.due("told(6)", x.told(6), 1);
        check.due("vote() again", x.vote(), Check.BUSY);
        x.say(0, 1);
        check.due("vote() when something is said", x.vote(), Check.BUSY);
        check.due("that stays said", x.votes(1), 1);
        x.close(1);
        check.due("told(6) closed", x.told(6), 0);
        x.vote();
        check.due("nothing said anew", x.votes(1), 0);
        check.due("neither", x.votes(0), 1);
        check.due("what it said", x.say(0, 2), 0);
    }

    private static void saying() {
        SpeakHall x = hall(0, 1, 2, 3);
        check.due("say(4, 1), not open", x.say(4, 1), Check.BEYOND);
        check.due("say(0, 3), not open", x.say(0, 3), Check.BEYOND);
        check.due("say(0, 1), not open", x.say(0, 1), Check.NONE);
        check.due("say(1, 1) of a guest, not open", x.say(1, 1), Check.NONE);
        x.vote();
        check.due("say(-1, 1)", x.say(-1, 1), Check.BEYOND);
        check.due("say(0, -1)", x.say(0, -1), Check.BEYOND);
        check.due("say(1, 3)", x.say(1, 3), Check.BEYOND);
        check.due("a guest", x.say(1, 1), Check.KIND);
        check.due("an expert", x.say(3, 1), Check.KIND);
        check.due("a chair", x.say(2, 1), 0);
        check.due("a member", x.say(0, 2), 0);
        check.due("another word", x.say(0, 1), 2);
        check.due("neither", x.say(0, 0), 1);
        x.present(0, false);
        check.due("one who is away", x.say(0, 1), Check.KIND);
    }

    private static void counting() {
        SpeakHall x = hall(0, 0, 2, 1, 3);
        check.due("votes(3), not open", x.votes(3), Check.BEYOND);
        check.due("votes(1), not open", x.votes(1), Check.NONE);
        x.vote();
        check.due("votes(-1)", x.votes(-1), Check.BEYOND);
        check.due("votes(3)", x.votes(3), Check.BEYOND);
        check.due("guests and experts say nothing", x.votes(0), 3);
        x.say(0, 1);
        x.say(1, 2);
        for (int v = 0; v < 3; v++) {
            check.due("votes(" + v + ")", x.votes(v), 1);
        }
        x.present(1, false);
        check.due("who is away does not count", x.votes(2), 0);
        x.present(1, true);
        check.due("who is back counts as it said", x.votes(2), 1);
        x.member(0, 0);
        check.due("a new member says neither", x.votes(0), 2);
    }

    private static void closing() {
        SpeakHall x = hall(0, 0);
        check.due("close(0), not open", x.close(0), Check.BEYOND);
        check.due("close(1), not open", x.close(1), Check.NONE);
        x.vote();
        check.due("close(0)", x.close(0), Check.BEYOND);
        check.due("close(4)", x.close(4), Check.BEYOND);
        check.due("it is open still", x.told(6), 1);
        x.say(0, 1);
        x.say(1, 2);
        x.present(1, false);
        check.due("only who may vote counts", x.close(3), 1);
        check.due("it is not open then", x.told(6), 0);
        check.due("close(3) again", x.close(3), Check.NONE);
    }

    private static boolean passes(int need, int yes, int no) {
        if (need == 1) {
            return yes > no;
        }
        if (need == 2) {
            return yes * 3 >= (yes + no) * 2 && yes > 0;
        }
        return no == 0 && yes > 0;
    }

    private static void closingByEachNeed() {
        for (int need = 1; need <= 3; need++) {
            for (int yes = 0; yes <= 6; yes++) {
                for (int no = 0; no + yes <= 10 && no <= 5; no++) {
                    SpeakHall x = hall(0, 0, 0, 0, 0, 0, 0, 0, 0, 2);
                    x.vote();
                    for (int m = 0; m < yes + no; m++) {
                        x.say(m, m < yes ? 1 : 2);
                    }
                    check.due("close(" + need + ") with " + yes + ", " + no, x.close(need), passes(need, yes, no) ? 1 : 0);
                }
            }
        }
    }

    private static int handsByAll(int need, int a, int b, int e) {
        boolean some = false;
        boolean all = true;
        for (int yes = Math.max(0, a - e); yes <= a + e; yes++) {
            for (int no = Math.max(0, b - e); no <= b + e; no++) {
                boolean is = passes(need, yes, no);
                some |= is;
                all &= is;
            }
        }
        return all ? 1 : some ? 2 : 0;
    }

    private static void handsAgainstAllCounts() {
        for (int need = 1; need <= 3; need++) {
            SpeakHall x = new SpeakHall();
            for (int a = 0; a <= 14; a++) {
                // An object is promised for 512 calls only.
                x = new SpeakHall();
                for (int b = 0; b <= 14; b++) {
                    for (int e = 0; e <= 5; e++) {
                        check.due("hands(" + need + ", " + a + ", " + b + ", " + e + ")", x.hands(need, a, b, e), handsByAll(need, a, b, e));
                    }
                }
            }
            int[][] edges = {{1000, 1000, 100}, {1000, 799, 100}, {1000, 800, 100}, {1000, 0, 100}, {0, 1000, 100},
                {1000, 350, 100}, {1000, 351, 100}, {1000, 500, 0}, {1000, 501, 0}, {0, 0, 100}, {100, 0, 0}, {100, 0, 100}};
            for (int[] row : edges) {
                check.due("hands(" + need + ", " + row[0] + ", " + row[1] + ", " + row[2] + ")",
                        x.hands(need, row[0], row[1], row[2]), handsByAll(need, row[0], row[1], row[2]));
            }
        }
    }

    private static void handsBeyond() {
        SpeakHall x = new SpeakHall();
        int[][] wrong = {{0, 1, 1, 1}, {4, 1, 1, 1}, {-1, 1, 1, 1}, {1, -1, 1, 1}, {1, 1001, 1, 1}, {1, 1, -1, 1},
            {1, 1, 1001, 1}, {1, 1, 1, -1}, {1, 1, 1, 101}};
        for (int[] row : wrong) {
            check.due("hands beyond", x.hands(row[0], row[1], row[2], row[3]), Check.BEYOND);
        }
        check.due("all of them findings", x.told(4), wrong.length);
    }
}
