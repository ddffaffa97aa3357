/** Promises 31 to 35. */
public final class SheetsTest {
    private static final Check check = new Check();

    public static void main(String[] args) {
        layingSheets();
        putting();
        lowestBits();
        copying();
        copyingWithinASheet();
        copyingFindings();
        reading();
        readingFindings();
        telling();
        check.end();
    }

    private static void fill(SpeakHall x, int s, int... numbers) {
        for (int i = 0; i < numbers.length; i++) {
            check.due("put(" + s + ", " + i + ", " + numbers[i] + ")", x.put(s, i, numbers[i]), 0);
        }
    }

    /** The keys of a sheet are seen by which of them are there after it was read. */
    private static void readsAs(String what, SpeakHall x, int s, int... keys) {
        check.due(what + ": read(" + s + ")", x.read(s), keys.length);
        check.due(what + ": told(2)", x.told(2), keys.length);
        for (int key : keys) {
            check.due(what + ": key(" + key + ") is there", x.key(key), Check.SIZE);
        }
    }

    private static void layingSheets() {
        SpeakHall x = new SpeakHall();
        for (int s = 0; s < 4; s++) {
            check.due("read at first", x.read(s), Check.MISSING);
        }
        for (int bits : new int[] {8, 16, 32}) {
            check.due("sheet(3, " + bits + ", 12)", x.sheet(3, bits, 12), 12);
            check.due("sheet(3, " + bits + ", 0)", x.sheet(3, bits, 0), 0);
            check.due("a sheet without numbers is not missing", x.read(3), 0);
            check.due("sheet(3, " + bits + ", -1)", x.sheet(3, bits, -1), Check.SIZE);
            check.due("sheet(3, " + bits + ", 13)", x.sheet(3, bits, 13), Check.BEYOND);
        }
        for (int bits : new int[] {-8, 1, 7, 9, 24, 64, 31, 33}) {
            check.due("sheet(0, " + bits + ", 1)", x.sheet(0, bits, 1), Check.BEYOND);
            check.due("sheet(0, " + bits + ", -1)", x.sheet(0, bits, -1), Check.BEYOND);
        }
        check.due("sheet(4, 8, 1)", x.sheet(4, 8, 1), Check.BEYOND);
        check.due("sheet(-1, 8, -1)", x.sheet(-1, 8, -1), Check.BEYOND);
        x.sheet(0, 8, 3);
        fill(x, 0, 1, 2, 3);
        check.due("a finding leaves it", x.sheet(0, 8, 13), Check.BEYOND);
        readsAs("left", x, 0, 1, 2, 3);
        check.due("laid anew", x.sheet(0, 8, 3), 3);
        check.due("all 0", x.read(0), 0);
        check.due("sheet(0, 0, 5)", x.sheet(0, 0, 5), 0);
        check.due("missing again", x.read(0), Check.MISSING);
        check.due("sheet(0, 0, 0)", x.sheet(0, 0, 0), 0);
        check.due("sheet(0, 0, -1)", x.sheet(0, 0, -1), Check.SIZE);
        check.due("sheet(0, 0, 13)", x.sheet(0, 0, 13), Check.BEYOND);
    }

    private static void putting() {
        SpeakHall x = new SpeakHall();
        check.due("put(4, 0, 0)", x.put(4, 0, 0), Check.BEYOND);
        check.due("put(-1, 0, 0)", x.put(-1, 0, 0), Check.BEYOND);
        check.due("put(1, -1, 0)", x.put(1, -1, 0), Check.MISSING);
        x.sheet(1, 16, 2);
        check.due("put(1, -1, 0)", x.put(1, -1, 0), Check.BEYOND);
        check.due("put(1, 2, 0)", x.put(1, 2, 0), Check.BEYOND);
        check.due("put(1, 1, 4)", x.put(1, 1, 4), 0);
        check.due("number 0 is 0", x.read(1), 0);
        check.due("put(1, 0, 6)", x.put(1, 0, 6), 0);
        readsAs("put", x, 1, 6, 4);
    }

    private static void lowestBits() {
        SpeakHall x = new SpeakHall();
        x.sheet(0, 8, 3);
        x.sheet(1, 16, 3);
        x.sheet(2, 32, 3);
        fill(x, 0, 256 + 5, -256 + 3, 1 << 30);
        readsAs("8 bits", x, 0, 5, 3);
        fill(x, 1, 65536 + 7, -65536 + 2, 1 << 16);
        readsAs("16 bits", x, 1, 7, 2);
        fill(x, 1, 256 + 5);
        check.due("16 bits keep 261", x.read(1), Check.BEYOND);
        fill(x, 2, 65536 + 7);
        check.due("32 bits keep 65543", x.read(2), Check.BEYOND);
        fill(x, 2, Integer.MIN_VALUE);
        check.due("32 bits keep the least", x.read(2), Check.BEYOND);
        fill(x, 0, 255);
        check.due("255 is no key", x.read(0), Check.BEYOND);
        fill(x, 0, -1);
        check.due("-1 is no key", x.read(0), Check.BEYOND);
    }

    private static void copying() {
        SpeakHall x = new SpeakHall();
        x.sheet(0, 8, 4);
        x.sheet(3, 8, 6);
        fill(x, 0, 1, 2, 3, 4);
        fill(x, 3, 9, 8, 7, 6, 5);
        check.due("copy(0, 1, 3, 2, 3)", x.copy(0, 1, 3, 2, 3), 3);
        readsAs("come to the other", x, 3, 9, 8, 2, 3, 4);
        readsAs("stay in the first", x, 0, 1, 2, 3, 4);
        check.due("copy(0, 4, 3, 6, 0)", x.copy(0, 4, 3, 6, 0), 0);
        check.due("copy(0, 0, 3, 2, 4)", x.copy(0, 0, 3, 2, 4), 4);
        readsAs("up to its end", x, 3, 9, 8, 1, 2, 3, 4);
        check.due("copy(0, 1, 3, 1, 1)", x.copy(0, 1, 3, 1, 1), 1);
        check.due("copy(0, 0, 3, 3, 1)", x.copy(0, 0, 3, 3, 1), 1);
        check.due("copy(0, 3, 3, 2, 1)", x.copy(0, 3, 3, 2, 1), 1);
        x.put(3, 5, 7);
        readsAs("and no more than n", x, 3, 9, 2, 4, 1, 3, 7);
    }

    private static void copyingWithinASheet() {
        SpeakHall x = new SpeakHall();
        x.sheet(0, 32, 6);
        fill(x, 0, 1, 2, 3, 4, 5);
        check.due("copy(0, 0, 0, 1, 5)", x.copy(0, 0, 0, 1, 5), 5);
        fill(x, 0, 9);
        readsAs("to the right", x, 0, 9, 1, 2, 3, 4, 5);
        check.due("copy(0, 1, 0, 0, 5)", x.copy(0, 1, 0, 0, 5), 5);
        x.put(0, 5, 0);
        readsAs("to the left", x, 0, 1, 2, 3, 4, 5);
        check.due("copy(0, 0, 0, 0, 6)", x.copy(0, 0, 0, 0, 6), 6);
        readsAs("to its own place", x, 0, 1, 2, 3, 4, 5);
    }

    private static void copyingFindings() {
        SpeakHall x = new SpeakHall();
        x.sheet(0, 8, 4);
        x.sheet(1, 16, 4);
        x.sheet(3, 8, 2);
        int[][] due = {
            {4, 0, 0, 0, 1, Check.BEYOND}, {-1, 0, 0, 0, 1, Check.BEYOND}, {2, 0, 4, 0, 1, Check.BEYOND}, {2, 0, -1, 0, 1, Check.BEYOND},
            {2, 0, 1, 0, -1, Check.MISSING}, {0, 0, 2, 0, -1, Check.MISSING}, {0, 0, 1, 0, -1, Check.KIND}, {0, 0, 1, 0, 0, Check.KIND},
            {0, 0, 3, 0, -1, Check.BEYOND}, {0, -1, 3, 0, 1, Check.BEYOND}, {0, 0, 3, -1, 1, Check.BEYOND}, {0, 0, 3, 0, 3, Check.BEYOND},
            {3, 0, 0, 0, 3, Check.BEYOND}, {0, 3, 3, 0, 2, Check.BEYOND}, {0, 0, 3, 1, 2, Check.BEYOND},
            {0, Integer.MAX_VALUE, 3, 0, Integer.MAX_VALUE, Check.BEYOND}, {0, 1, 3, Integer.MAX_VALUE, 1, Check.BEYOND},
            {0, 0, 3, 0, Integer.MIN_VALUE, Check.BEYOND}, {0, 5, 3, 0, 0, Check.BEYOND},
        };
        for (int[] row : due) {
            check.due("copy(" + row[0] + ", " + row[1] + ", " + row[2] + ", " + row[3] + ", " + row[4] + ")",
                    x.copy(row[0], row[1], row[2], row[3], row[4]), row[5]);
        }
    }

    private static void reading() {
        SpeakHall x = new SpeakHall();
        x.key(3);
        x.sheet(0, 8, 12);
        fill(x, 0, 4, 2, 0, 1, 99);
        readsAs("up to the first 0", x, 0, 4, 2);
        check.due("the old key is gone", x.key(3), 3);
        x.sheet(1, 8, 2);
        fill(x, 1, 9, 1);
        readsAs("up to the end", x, 1, 9, 1);
        fill(x, 0, 0);
        check.due("no keys", x.read(0), 0);
        check.due("told(2)", x.told(2), 0);

        SpeakHall y = new SpeakHall();
        y.member(0, 0);
        y.member(2, 0);
        y.ask(0, 2);
        y.ask(1, 0);
        y.sheet(0, 8, 2);
        fill(y, 0, 9, 1);
        y.read(0);
        check.due("the first key of the sheet comes first", y.listed(0, false), 1);
        fill(y, 0, 1, 9);
        y.read(0);
        check.due("in the other order", y.listed(0, false), 0);
    }

    private static void readingFindings() {
        SpeakHall x = new SpeakHall();
        x.key(3);
        check.due("read(4)", x.read(4), Check.BEYOND);
        check.due("read(-1)", x.read(-1), Check.BEYOND);
        check.due("read(2)", x.read(2), Check.MISSING);
        x.sheet(2, 8, 9);
        fill(x, 2, 1, 1, 2, 3, 4, 5, 6, 10, 0);
        check.due("beyond ahead of size", x.read(2), Check.BEYOND);
        fill(x, 2, 1, 1, 2, 3, 4, 5, 6, 7, 0);
        check.due("size ahead of full", x.read(2), Check.SIZE);
        fill(x, 2, 1, 2, 3, 4, 5, 6, 7, 1);
        check.due("twice, the second beyond six", x.read(2), Check.SIZE);
        fill(x, 2, 1, 2, 3, 4, 5, 6, 7, 0, 1);
        check.due("more than six", x.read(2), Check.FULL);
        check.due("the rule stays", x.told(2), 1);
        check.due("key(3) is there", x.key(3), Check.SIZE);
        fill(x, 2, 1, 2, 3, 4, 5, 6, 0, 7, 7);
        readsAs("six", x, 2, 1, 2, 3, 4, 5, 6);
    }

    private static void telling() {
        SpeakHall x = new SpeakHall();
        check.due("told(-1)", x.told(-1), Check.BEYOND);
        check.due("told(7)", x.told(7), Check.BEYOND);
        check.due("two findings", x.told(4), 2);
        x.member(0, 0);
        x.member(1, 0);
        x.ask(0, 0);
        x.ask(0, 1);
        x.ask(1, 1);
        x.key(1);
        x.vote();
        x.begin();
        x.yield();
        x.right(0, 3);
        x.right(0, 4);
        int[] due = {2, 2, 1, 1, 2, 2, 1};
        for (int what = 0; what < 7; what++) {
            check.due("told(" + what + ")", x.told(what), due[what]);
        }
        x.listed(9, true);
        x.begin();
        x.begin();
        check.due("each call's findings count", x.told(4), 4);
        check.due("told(4) itself is none", x.told(4), 4);
    }
}
