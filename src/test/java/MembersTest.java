/** Promises 1 to 6. */
public final class MembersTest {
    private static final Check check = new Check();

    public static void main(String[] args) {
        aNewObject();
        newMembers();
        asAKind();
        presence();
        ofAMember();
        timeOfDelegations();
        check.end();
    }

    private static void aNewObject() {
        SpeakHall x = new SpeakHall();
        for (int what = 0; what <= 6; what++) {
            check.due("told(" + what + ")", x.told(what), 0);
        }
        for (int d = 0; d < 5; d++) {
            check.due("time(" + d + ")", x.time(d), 0);
        }
        for (int sort = 0; sort < 3; sort++) {
            check.due("limit(" + sort + ", 1)", x.limit(sort, 1), new int[] {10, 4, 2}[sort]);
        }
        check.due("floor(0)", x.floor(0), Check.NONE);
        check.due("floor(3)", x.floor(3), 0);
        check.due("listed(0, false)", x.listed(0, false), Check.NONE);
        check.due("votes(0)", x.votes(0), Check.NONE);
        check.due("minutes(0, 0)", x.minutes(0, 0), Check.BEYOND);
        check.due("noKeys()", x.noKeys(), 0);
        for (int s = 0; s < 4; s++) {
            check.due("put(" + s + ", 0, 0)", x.put(s, 0, 0), Check.MISSING);
        }
    }

    private static void newMembers() {
        SpeakHall x = new SpeakHall();
        check.due("member(-1, 0)", x.member(-1, 0), Check.BEYOND);
        check.due("member(4, 0)", x.member(4, 0), Check.BEYOND);
        check.due("member(0, -1)", x.member(0, -1), Check.BEYOND);
        check.due("member(0, 5)", x.member(0, 5), Check.BEYOND);
        check.due("a finding makes no member", x.told(0), 0);
        for (int m = 0; m < 10; m++) {
            check.due("member no. " + m, x.member(m % 4, m % 5), m);
        }
        check.due("the eleventh", x.member(0, 0), Check.FULL);
        check.due("the eleventh, of no kind", x.member(4, 0), Check.BEYOND);
        check.due("the eleventh, of no delegation", x.member(0, 5), Check.BEYOND);
        check.due("told(0)", x.told(0), 10);
    }

    private static void asAKind() {
        SpeakHall x = new SpeakHall();
        for (int kind = 0; kind < 4; kind++) {
            x.member(kind, 0);
        }
        boolean[][] is = {
            {true, false, false, false},
            {true, true, false, false},
            {true, false, true, false},
            {true, true, false, true},
        };
        for (int m = 0; m < 4; m++) {
            for (int kind = 0; kind < 4; kind++) {
                check.due("as(" + m + ", " + kind + ")", x.as(m, kind), is[m][kind] ? m : Check.KIND);
            }
        }
        check.due("as(4, 0)", x.as(4, 0), Check.BEYOND);
        check.due("as(-1, 0)", x.as(-1, 0), Check.BEYOND);
        check.due("as(0, 4)", x.as(0, 4), Check.BEYOND);
        check.due("as(0, -1)", x.as(0, -1), Check.BEYOND);
    }

    private static void presence() {
        SpeakHall x = new SpeakHall();
        check.due("present(0, true) of nobody", x.present(0, true), Check.BEYOND);
        x.member(0, 0);
        check.due("present at first", x.present(0, true), 0);
        check.due("goes", x.present(0, false), 1);
        check.due("goes again", x.present(0, false), 0);
        check.due("is away", x.of(0, 2), 0);
        check.due("comes", x.present(0, true), 1);
        check.due("is there", x.of(0, 2), 1);
        check.due("present(-1, true)", x.present(-1, true), Check.BEYOND);
        check.due("present(1, false)", x.present(1, false), Check.BEYOND);
    }

    private static void ofAMember() {
        SpeakHall x = new SpeakHall();
        x.member(3, 4);
        x.member(2, 1);
        int[][] due = {{3, 4, 1, 0, 0}, {2, 1, 1, 0, 0}};
        for (int m = 0; m < 2; m++) {
            for (int what = 0; what < 5; what++) {
                check.due("of(" + m + ", " + what + ")", x.of(m, what), due[m][what]);
            }
        }
        x.ask(1, 0);
        x.ask(1, 1);
        x.begin();
        x.tick(10);
        check.due("time after a speech", x.of(1, 3), 10);
        check.due("speeches after a speech", x.of(1, 4), 1);
        x.begin();
        x.tick(4);
        check.due("time after a reply", x.of(1, 3), 14);
        check.due("a reply is no speech", x.of(1, 4), 1);
        check.due("of(0, 5)", x.of(0, 5), Check.BEYOND);
        check.due("of(0, -1)", x.of(0, -1), Check.BEYOND);
        check.due("of(2, 0)", x.of(2, 0), Check.BEYOND);
        check.due("of(-1, 0)", x.of(-1, 0), Check.BEYOND);
    }

    private static void timeOfDelegations() {
        SpeakHall x = new SpeakHall();
        x.member(0, 2);
        x.member(0, 2);
        x.member(0, 4);
        for (int m = 0; m < 3; m++) {
            x.ask(m, 0);
            x.begin();
            x.tick(m + 1);
            x.yield();
        }
        x.present(0, false);
        check.due("time(2) of both, also of who is away", x.time(2), 3);
        check.due("time(4)", x.time(4), 3);
        check.due("time(0)", x.time(0), 0);
        check.due("time(-1)", x.time(-1), Check.BEYOND);
        check.due("time(5)", x.time(5), Check.BEYOND);
    }
}
