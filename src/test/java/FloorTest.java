/** Promises 15 to 20. */
public final class FloorTest {
    private static final Check check = new Check();

    public static void main(String[] args) {
        beginning();
        cutting();
        cuttingWithoutAPoint();
        cuttingIsFull();
        ticking();
        tickingThroughThoseBehind();
        fourBehindKeepTheirs();
        yielding();
        ofTheFloor();
        limits();
        goingAwayKeepsTheFloor();
        check.end();
    }

    private static SpeakHall hall(int... kinds) {
        SpeakHall x = new SpeakHall();
        for (int i = 0; i < kinds.length; i++) {
            x.member(kinds[i], i % 5);
        }
        return x;
    }

    private static void beginning() {
        SpeakHall x = hall(0, 0);
        check.due("nobody asks", x.begin(), Check.NONE);
        x.ask(0, 0);
        x.present(0, false);
        check.due("only one who is away asks", x.begin(), Check.NONE);
        x.ask(1, 2);
        check.due("a point begins, too", x.begin(), 1);
        check.due("the asking goes", x.told(1), 1);
        check.due("a point is no speech", x.of(1, 4), 0);
        check.due("somebody has it", x.begin(), Check.BUSY);
        x.tick(2);
        check.due("the list is empty again", x.begin(), Check.NONE);
        x.present(0, true);
        check.due("begin()", x.begin(), 0);
        check.due("busy, with an empty list", x.begin(), Check.BUSY);
        check.due("speeches", x.of(0, 4), 1);

        SpeakHall y = hall(0, 2);
        y.ask(0, 0);
        y.ask(1, 0);
        y.key(9);
        check.due("the first of the list begins", y.begin(), 1);
    }

    private static void cutting() {
        SpeakHall x = hall(0, 0, 0, 3);
        x.ask(0, 0);
        x.begin();
        x.tick(3);
        x.ask(1, 1);
        x.ask(3, 2);
        x.ask(2, 2);
        x.present(3, false);
        check.due("the first point of those present", x.cut(), 2);
        check.due("its limit", x.floor(2), 2);
        check.due("one behind", x.floor(3), 1);
        check.due("its asking goes", x.told(1), 2);
        x.present(3, true);
        x.tick(1);
        check.due("a point cuts in on a point", x.cut(), 3);
        check.due("twice the limit for an expert", x.floor(2), 4);
        check.due("two behind", x.floor(3), 2);
        check.due("yield()", x.yield(), 2);
        check.due("what it had left", x.floor(2), 1);
        check.due("yield() again", x.yield(), 0);
        check.due("the clock stood", x.floor(2), 7);
        check.due("for its sort", x.floor(1), 0);
        x.key(7);
        x.ask(2, 0);
        x.ask(3, 0);
        check.due("the latest who took it is who cut in last", x.listed(2, false), 3);
    }

    private static void cuttingWithoutAPoint() {
        SpeakHall x = hall(0, 0);
        x.ask(1, 2);
        check.due("nobody has the floor", x.cut(), Check.NONE);
        x.withdraw(1, 2);
        x.ask(0, 0);
        x.begin();
        check.due("no point", x.cut(), Check.NONE);
        x.ask(1, 0);
        x.ask(1, 1);
        check.due("a speech and a reply are none", x.cut(), Check.NONE);
        x.ask(1, 2);
        x.present(1, false);
        check.due("a point of one who is away", x.cut(), Check.NONE);
        check.due("nothing has changed", x.told(1), 3);
        check.due("nobody behind", x.floor(3), 0);
        x.ask(0, 2);
        check.due("a point of who has the floor", x.cut(), 0);
    }

    private static void cuttingIsFull() {
        SpeakHall x = hall(0, 0, 0, 0, 0, 0);
        x.ask(0, 0);
        x.begin();
        for (int m = 1; m <= 4; m++) {
            x.ask(m, 2);
            check.due("cut no. " + m, x.cut(), m);
            check.due("behind", x.floor(3), m);
        }
        check.due("full, but no point", x.cut(), Check.NONE);
        x.ask(5, 2);
        check.due("full", x.cut(), Check.FULL);
        check.due("who has it still", x.floor(0), 4);
        check.due("the asking stays", x.told(1), 1);
        x.yield();
        check.due("room again", x.cut(), 5);
        for (int m = 3; m >= 0; m--) {
            check.due("the latest who is behind", x.yield(), m);
        }
        check.due("nobody", x.yield(), -1);
    }

    private static void ticking() {
        SpeakHall x = hall(0, 3);
        check.due("tick(0)", x.tick(0), Check.BEYOND);
        check.due("tick(-1)", x.tick(-1), Check.BEYOND);
        check.due("tick(101)", x.tick(101), Check.BEYOND);
        check.due("nobody has it", x.tick(100), 0);
        x.ask(0, 0);
        x.ask(1, 0);
        x.begin();
        check.due("tick(9)", x.tick(9), 9);
        check.due("left", x.floor(2), 1);
        check.due("no row yet", x.told(3), 0);
        check.due("the last one", x.tick(1), 1);
        check.due("it ended", x.floor(0), Check.NONE);
        check.due("a row", x.minutes(0, 2), 10);
        check.due("nobody begins by itself", x.tick(3), 0);
        x.begin();
        check.due("an expert", x.tick(100), 20);
        check.due("its time", x.of(1, 3), 20);
        check.due("of the delegation", x.time(1), 20);
    }

    private static void tickingThroughThoseBehind() {
        SpeakHall x = hall(0, 0, 0);
        x.ask(0, 0);
        x.begin();
        x.tick(4);
        x.ask(1, 2);
        x.cut();
        x.tick(1);
        x.ask(2, 2);
        x.cut();
        check.due("2 and 1 and 6", x.tick(100), 9);
        int[][] rows = {{2, 2, 2}, {1, 2, 2}, {0, 0, 10}};
        for (int i = 0; i < 3; i++) {
            for (int what = 0; what < 3; what++) {
                check.due("minutes(" + i + ", " + what + ")", x.minutes(i, what), rows[i][what]);
            }
        }
        check.due("time of who was behind", x.of(0, 3), 10);
        check.due("time of who cut in", x.of(1, 3), 2);
    }

    private static void fourBehindKeepTheirs() {
        SpeakHall x = hall(0, 0, 0, 0, 0);
        x.limit(2, 20);
        x.ask(0, 1);
        x.begin();
        x.tick(1);
        for (int m = 1; m <= 4; m++) {
            x.ask(m, 2);
            x.cut();
            x.tick(m + 1);
        }
        for (int m = 4; m >= 0; m--) {
            check.due("who", x.floor(0), m);
            check.due("for which sort", x.floor(1), m == 0 ? 1 : 2);
            check.due("left", x.floor(2), (m == 0 ? 4 : 20) - m - 1);
            check.due("behind", x.floor(3), m);
            x.yield();
            check.due("ticks", x.minutes(4 - m, 3), m + 1);
            check.due("sort", x.minutes(4 - m, 1), m == 0 ? 1 : 2);
        }
    }

    private static void yielding() {
        SpeakHall x = hall(0);
        check.due("nobody has it", x.yield(), Check.NONE);
        x.ask(0, 1);
        x.begin();
        check.due("nobody then", x.yield(), -1);
        check.due("-1 is no finding", x.told(4), 1);
        check.due("a row without ticks", x.minutes(0, 2), 0);
        check.due("its sort", x.minutes(0, 1), 1);
        check.due("nobody has it again", x.yield(), Check.NONE);
        check.due("no row by a finding", x.told(3), 1);
    }

    private static void ofTheFloor() {
        SpeakHall x = hall(0, 0);
        for (int what = 0; what < 3; what++) {
            check.due("floor(" + what + ") of nobody", x.floor(what), Check.NONE);
        }
        check.due("floor(3) of nobody", x.floor(3), 0);
        check.due("floor(4)", x.floor(4), Check.BEYOND);
        check.due("floor(-1)", x.floor(-1), Check.BEYOND);
        x.ask(1, 1);
        x.begin();
        x.tick(1);
        int[] due = {1, 1, 3, 0};
        for (int what = 0; what < 4; what++) {
            check.due("floor(" + what + ")", x.floor(what), due[what]);
        }
        check.due("floor(4) of somebody", x.floor(4), Check.BEYOND);
    }

    private static void limits() {
        SpeakHall x = hall(0, 3);
        check.due("limit(3, 1)", x.limit(3, 1), Check.BEYOND);
        check.due("limit(-1, 1)", x.limit(-1, 1), Check.BEYOND);
        check.due("limit(0, 0)", x.limit(0, 0), Check.BEYOND);
        check.due("limit(0, 51)", x.limit(0, 51), Check.BEYOND);
        x.ask(0, 0);
        x.begin();
        check.due("limit(0, 1)", x.limit(0, 1), 10);
        check.due("what is left stays", x.floor(2), 10);
        check.due("limit(0, 50)", x.limit(0, 50), 1);
        x.yield();
        x.ask(1, 0);
        x.begin();
        check.due("twice for an expert", x.floor(2), 100);
        check.due("limit(1, 7)", x.limit(1, 7), 4);
        check.due("limit(2, 8)", x.limit(2, 8), 2);
        check.due("limit(0, 50) again", x.limit(0, 50), 50);
        x.ask(0, 2);
        x.cut();
        check.due("of a point", x.floor(2), 8);
    }

    private static void goingAwayKeepsTheFloor() {
        SpeakHall x = hall(0);
        x.ask(0, 0);
        x.begin();
        x.present(0, false);
        check.due("it has the floor still", x.floor(0), 0);
        check.due("and its ticks", x.tick(2), 2);
    }
}
