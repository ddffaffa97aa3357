/** Promises 28 to 30. */
public final class MinutesTest {
    private static final Check check = new Check();

    public static void main(String[] args) {
        rowsAreWritten();
        ticksWhileBehindDoNotCount();
        puttingRight();
        puttingRightIsFull();
        sums();
        theOldestGo();
        whatWasPutRightFollowsItsRow();
        check.end();
    }

    private static SpeakHall hall(int members) {
        SpeakHall x = new SpeakHall();
        for (int m = 0; m < members; m++) {
            x.member(0, m % 5);
        }
        return x;
    }

    private static void speak(SpeakHall x, int member, int sort, int ticks) {
        x.ask(member, sort);
        x.begin();
        if (ticks > 0) {
            x.tick(ticks);
        }
        x.yield();
    }

    private static void rowsAreWritten() {
        SpeakHall x = hall(2);
        speak(x, 1, 0, 9);
        speak(x, 0, 1, 3);
        int[][] due = {{1, 0, 9, 9}, {0, 1, 3, 3}};
        for (int i = 0; i < 2; i++) {
            for (int what = 0; what < 4; what++) {
                check.due("minutes(" + i + ", " + what + ")", x.minutes(i, what), due[i][what]);
            }
        }
        check.due("minutes(2, 0)", x.minutes(2, 0), Check.BEYOND);
        check.due("minutes(-1, 0)", x.minutes(-1, 0), Check.BEYOND);
        check.due("minutes(0, 4)", x.minutes(0, 4), Check.BEYOND);
        check.due("minutes(0, -1)", x.minutes(0, -1), Check.BEYOND);
        check.due("told(3)", x.told(3), 2);
    }

    private static void ticksWhileBehindDoNotCount() {
        SpeakHall x = hall(2);
        x.ask(0, 0);
        x.begin();
        x.tick(3);
        x.limit(0, 50);
        x.ask(1, 2);
        x.cut();
        x.tick(3);
        x.yield();
        check.due("who cut in ended first", x.minutes(0, 0), 1);
        check.due("with its ticks", x.minutes(0, 3), 2);
        check.due("who was behind", x.minutes(1, 0), 0);
        check.due("without those of the point", x.minutes(1, 3), 4);
    }

    private static void puttingRight() {
        SpeakHall x = hall(1);
        check.due("right(0, 1) of no row", x.right(0, 1), Check.BEYOND);
        speak(x, 0, 0, 5);
        speak(x, 0, 0, 6);
        check.due("right(0, -1)", x.right(0, -1), Check.BEYOND);
        check.due("right(0, 201)", x.right(0, 201), Check.BEYOND);
        check.due("right(-1, 0)", x.right(-1, 0), Check.BEYOND);
        check.due("right(2, 0)", x.right(2, 0), Check.BEYOND);
        check.due("told(5)", x.told(5), 0);
        check.due("right(0, 200)", x.right(0, 200), 1);
        check.due("right(1, 0)", x.right(1, 0), 2);
        check.due("right(0, 7)", x.right(0, 7), 3);
        check.due("told(5)", x.told(5), 3);
        check.due("latest of row 0", x.minutes(0, 2), 7);
        check.due("first of row 0", x.minutes(0, 3), 5);
        check.due("latest of row 1", x.minutes(1, 2), 0);
        check.due("first of row 1", x.minutes(1, 3), 6);
        check.due("time stays", x.of(0, 3), 11);
        check.due("time of the delegation stays", x.time(0), 11);
    }

    private static void puttingRightIsFull() {
        SpeakHall x = hall(1);
        speak(x, 0, 0, 1);
        speak(x, 0, 0, 2);
        for (int c = 1; c <= 40; c++) {
            check.due("time " + c, x.right(c % 2, c), c);
        }
        check.due("the 41st", x.right(0, 1), Check.FULL);
        check.due("the 41st of the other row", x.right(1, 1), Check.FULL);
        check.due("the 41st of no row", x.right(2, 1), Check.BEYOND);
        check.due("the 41st beyond", x.right(0, 201), Check.BEYOND);
        check.due("row 0", x.minutes(0, 2), 40);
        check.due("row 1", x.minutes(1, 2), 39);
        check.due("sum(0, 40)", x.sum(0, 40), 79);
        check.due("sum(0, 39)", x.sum(0, 39), 77);
    }

    private static void sums() {
        SpeakHall x = hall(3);
        check.due("no row", x.sum(0, 0), 0);
        speak(x, 0, 0, 5);
        speak(x, 1, 0, 6);
        speak(x, 0, 1, 2);
        x.right(0, 50);
        x.right(1, 60);
        x.right(2, 20);
        x.right(0, 100);
        int[][] due = {{7, 52, 52, 70, 120}, {6, 6, 60, 60, 60}, {0, 0, 0, 0, 0}};
        for (int m = 0; m < 3; m++) {
            for (int k = 0; k <= 4; k++) {
                check.due("sum(" + m + ", " + k + ")", x.sum(m, k), due[m][k]);
            }
        }
        check.due("sum(0, 5)", x.sum(0, 5), Check.BEYOND);
        check.due("sum(0, -1)", x.sum(0, -1), Check.BEYOND);
        check.due("sum(3, 0)", x.sum(3, 0), Check.BEYOND);
        check.due("sum(-1, 0)", x.sum(-1, 0), Check.BEYOND);
    }

    private static void theOldestGo() {
        SpeakHall x = hall(10);
        for (int row = 0; row < 100; row++) {
            speak(x, row % 10, 1, row % 3);
        }
        check.due("100 rows", x.told(3), 100);
        check.due("row 0", x.minutes(0, 0), 0);
        check.due("row 99", x.minutes(99, 0), 9);
        speak(x, 5, 0, 7);
        check.due("100 rows still", x.told(3), 100);
        check.due("row 0 is the next one", x.minutes(0, 0), 1);
        check.due("row 0, its ticks", x.minutes(0, 2), 1);
        check.due("row 98", x.minutes(98, 0), 9);
        check.due("row 99, the member", x.minutes(99, 0), 5);
        check.due("row 99, the sort", x.minutes(99, 1), 0);
        check.due("row 99, the ticks", x.minutes(99, 3), 7);
        check.due("row 100", x.minutes(100, 0), Check.BEYOND);
    }

    private static void whatWasPutRightFollowsItsRow() {
        SpeakHall x = hall(2);
        for (int row = 0; row < 100; row++) {
            speak(x, 0, 1, 1);
        }
        x.right(0, 30);
        x.right(1, 40);
        check.due("as of 2", x.sum(0, 2), 168);
        speak(x, 1, 1, 2);
        check.due("what was put right in a row that went", x.sum(0, 2), 138);
        check.due("the row moved", x.minutes(0, 2), 40);
        check.due("the next one was not put right", x.minutes(1, 2), 1);
        check.due("the newest was not, either", x.minutes(99, 2), 2);
        check.due("the latest count stays", x.told(5), 2);
        check.due("right(0, 50)", x.right(0, 50), 3);
        check.due("as of 3", x.sum(0, 3), 148);
        check.due("as of 2", x.sum(0, 2), 138);
        check.due("as of 1", x.sum(0, 1), 99);
    }
}
