/** Promises 31 to 35, sentence by sentence. */
final class SheetsBounds {
    private static final int LEAST = Halls.LEAST;
    private static final int MOST = Halls.MOST;

    private SheetsBounds() { }

    static void all(Bounds b) {
        sheet(b);
        put(b);
        copy(b);
        read(b);
        told(b);
    }

    /** A sheet of such bits with just these numbers. */
    private static String laid(int s, int bits, int... numbers) {
        return "sheet(" + s + ", " + bits + ", " + numbers.length + ");" + Script.times(numbers.length, i -> "put(" + s + ", " + i + ", " + numbers[i] + ")");
    }

    /** The RULE is just these KEYS, as far as it can be seen without ASKINGS; it ends without any. */
    private static String keysAre(int... keys) {
        return "told(2) = " + keys.length + ";" + Script.times(keys.length, i -> "key(" + keys[i] + ") = SIZE") + "noKeys();";
    }

    private static void sheet(Bounds b) {
        b.sentence("Promise 31", "A sheet has n numbers, all 0, of 8, 16 or 32 bits; bits 0: it is MISSING: n (0).",
                Script.times(4, s -> Script.each("sheet(" + s + ", #, 0) = 0; read(" + s + ") = 0; put(" + s + ", 0, 1) = BEYOND", 8, 16, 32)),
                Script.times(4, s -> Script.each("sheet(" + s + ", #, 12) = 12; read(" + s + ") = 0; put(" + s + ", 11, 1) = 0; read(" + s + ") = 0", 8, 16, 32)),
                Script.times(4, s -> "sheet(" + s + ", 8, 3) = 3; read(" + s + ") = 0; sheet(" + s + ", 0, 0) = 0; read(" + s + ") = MISSING; put(" + s + ", 0, 0) = MISSING"),
                "sheet(0, 8, 12) = 12; sheet(0, 0, 12) = 0; read(0) = MISSING; sheet(0, 0, 5) = 0; read(0) = MISSING; sheet(0, 32, 1) = 1; read(0) = 0",
                laid(0, 8, 1, 2, 3) + "sheet(0, 8, 3) = 3; read(0) = 0;" + Script.times(3, i -> "put(0, " + i + ", " + (i + 4) + ")") + "read(0) = 3; sheet(0, 16, 2) = 2; read(0) = 0; put(0, 2, 1) = BEYOND",
                laid(0, 8, 1, 2) + laid(1, 8, 3, 4) + "sheet(0, 0, 0) = 0; read(1) = 2;" + keysAre(3, 4) + "sheet(2, 8, 2) = 2; read(1) = 2;" + keysAre(3, 4));
        b.sentence("Promise 31", "BEYOND: no such sheet, or bits.",
                Script.each("sheet(#, 8, 1) = BEYOND", -1, 4, LEAST, MOST) + "sheet(0, 8, 1) = 1; sheet(3, 8, 1) = 1",
                Script.each("sheet(0, #, 1) = BEYOND", -1, 1, 4, 7, 9, 15, 17, 24, 31, 33, 64, -8, LEAST, MOST) + "read(0) = MISSING",
                "sheet(4, 8, -1) = BEYOND; sheet(-1, 0, -1) = BEYOND; sheet(0, 7, -1) = BEYOND; sheet(0, 24, 13) = BEYOND; sheet(4, 9, 1) = BEYOND",
                Halls.RICH + "sheet(4, 8, 1) = BEYOND; sheet(-1, 0, 0) = BEYOND; sheet(0, 1, 1) = BEYOND; sheet(2, 33, 1) = BEYOND; read(0) = 3");
        b.sentence("Promise 31", "SIZE: n is below 0.",
                Script.each("sheet(0, #, -1) = SIZE", 8, 16, 32, 0) + "read(0) = MISSING; sheet(0, 8, 0) = 0; sheet(0, 0, " + LEAST + ") = SIZE; read(0) = 0; sheet(0, 8, " + LEAST + ") = SIZE",
                "sheet(0, 9, -1) = BEYOND; sheet(4, 8, -1) = BEYOND; sheet(3, 32, -1) = SIZE",
                Halls.RICH + "sheet(0, 8, -1) = SIZE; sheet(1, 0, -1) = SIZE; sheet(3, 16, -1) = SIZE; read(0) = 3; read(1) = 3; read(3) = MISSING");
        b.sentence("Promise 31", "BEYOND: n is above 12.",
                Script.each("sheet(0, #, 13) = BEYOND", 8, 16, 32, 0) + "read(0) = MISSING; sheet(0, 8, 12) = 12; sheet(0, 8, 13) = BEYOND; put(0, 11, 1) = 0; put(0, 12, 1) = BEYOND",
                "sheet(0, 8, " + MOST + ") = BEYOND; sheet(0, 0, " + MOST + ") = BEYOND; read(0) = MISSING",
                Halls.RICH + "sheet(0, 8, 13) = BEYOND; sheet(1, 0, 13) = BEYOND; sheet(3, 32, 13) = BEYOND; read(0) = 3; read(1) = 3; read(3) = MISSING");
    }

    private static void put(Bounds b) {
        b.sentence("Promise 32", "Number i of a sheet becomes v (its lowest bits): 0.",
                "sheet(0, 8, 3); put(0, 0, 256) = 0; read(0) = 0; put(0, 0, 265) = 0; put(0, 1, -255) = 0; put(0, 2, 2147483400) = 0; read(0) = 3;" + keysAre(9, 1, 8),
                "sheet(0, 8, 1); put(0, 0, 255) = 0; read(0) = BEYOND; put(0, 0, -1) = 0; read(0) = BEYOND; put(0, 0, " + LEAST + ") = 0; read(0) = 0; put(0, 0, " + MOST + ") = 0; read(0) = BEYOND",
                "sheet(0, 16, 2); put(0, 0, 65536) = 0; read(0) = 0; put(0, 0, 65545) = 0; put(0, 1, -65535) = 0; read(0) = 2;" + keysAre(9, 1) + "put(0, 0, 256) = 0; read(0) = BEYOND;"
                        + "put(0, 0, 257) = 0; read(0) = BEYOND; put(0, 0, " + LEAST + ") = 0; read(0) = 0; put(0, 0, -1) = 0; read(0) = BEYOND",
                "sheet(0, 32, 1); put(0, 0, 65536) = 0; read(0) = BEYOND; put(0, 0, 65537) = 0; read(0) = BEYOND; put(0, 0, 257) = 0; read(0) = BEYOND; put(0, 0, " + LEAST + ") = 0; read(0) = BEYOND;"
                        + "put(0, 0, -2147483647) = 0; read(0) = BEYOND; put(0, 0, 9) = 0; read(0) = 1",
                "sheet(3, 8, 12);" + Script.times(6, i -> "put(3, " + i + ", " + (i + 4) + ") = 0") + "read(3) = 6;" + keysAre(4, 5, 6, 7, 8, 9) + "put(3, 3, 0) = 0; read(3) = 3;" + keysAre(4, 5, 6)
                        + "put(3, 0, 1) = 0; put(3, 11, 2) = 0; read(3) = 3;" + keysAre(1, 5, 6));
        b.sentence("Promise 32", "BEYOND: no such sheet.",
                Script.each("put(#, 0, 1) = BEYOND", -1, 4, LEAST, MOST) + "put(4, -1, 1) = BEYOND; put(0, 0, 1) = MISSING; sheet(3, 8, 1); put(3, 0, 1) = 0; put(4, 0, 1) = BEYOND",
                Halls.RICH + "put(4, 0, 1) = BEYOND; put(-1, 0, 1) = BEYOND");
        b.sentence("Promise 32", "MISSING.",
                Script.times(4, s -> "put(" + s + ", 0, 1) = MISSING; put(" + s + ", -1, 1) = MISSING; put(" + s + ", 12, 1) = MISSING"),
                "sheet(1, 8, 2); put(1, 0, 3) = 0; sheet(1, 0, 2); put(1, 0, 3) = MISSING; put(1, 2, 3) = MISSING; sheet(1, 8, 2); read(1) = 0; put(1, 0, 3) = 0",
                Halls.RICH + "put(3, 0, 1) = MISSING; put(3, -1, 1) = MISSING");
        b.sentence("Promise 32", "BEYOND: no such number.",
                "sheet(0, 8, 0); put(0, 0, 1) = BEYOND; put(0, -1, 1) = BEYOND; sheet(0, 8, 12); put(0, 12, 1) = BEYOND; put(0, -1, 1) = BEYOND; put(0, 11, 1) = 0; put(0, 0, 1) = 0",
                "sheet(0, 32, 3);" + Script.each("put(0, #, 1) = BEYOND", -1, 3, 11, 12, LEAST, MOST) + "read(0) = 0; put(0, 2, 1) = 0; sheet(0, 32, 4); read(0) = 0; put(0, 3, 1) = 0",
                "sheet(0, 8, 3); sheet(0, 8, 2); put(0, 2, 5) = BEYOND",
                Halls.RICH + "put(0, 4, 1) = BEYOND; put(0, -1, 1) = BEYOND; put(1, 3, 1) = BEYOND; put(2, 12, 1) = BEYOND; put(0, 3, 1) = 0");
    }

    private static void copy(Bounds b) {
        b.sentence("Promise 33", "n numbers of a sheet from one on come to another one from one on: n.",
                laid(0, 8, 1, 2, 3, 4) + laid(3, 8, 9, 8, 7, 6) + "copy(0, 0, 3, 0, 0) = 0; read(3) = 4;" + keysAre(9, 8, 7, 6) + "copy(0, 3, 3, 0, 1) = 1; read(3) = 4;" + keysAre(4, 8, 7, 6)
                        + "copy(0, 0, 3, 3, 1) = 1; read(3) = 4;" + keysAre(4, 8, 7, 1) + "copy(0, 0, 3, 0, 4) = 4; read(3) = 4;" + keysAre(1, 2, 3, 4) + "read(0) = 4;" + keysAre(1, 2, 3, 4),
                // Those ahead of the first and behind the last stay, whichever way they come.
                laid(0, 8, 1, 2, 3, 4) + laid(1, 8, 9, 8, 7, 6) + "copy(0, 0, 1, 1, 1) = 1; read(1) = 4;" + keysAre(9, 1, 7, 6) + "copy(0, 3, 1, 2, 1) = 1; read(1) = 4;" + keysAre(9, 1, 4, 6)
                        + "copy(0, 1, 1, 1, 2) = 2; read(1) = 4;" + keysAre(9, 2, 3, 6),
                laid(0, 32, 1, 2, 3, 4, 5, 6) + "copy(0, 0, 0, 1, 5) = 5; put(0, 0, 9) = 0; read(0) = 6;" + keysAre(9, 1, 2, 3, 4, 5),
                laid(0, 16, 1, 2, 3, 4, 5, 6) + "copy(0, 1, 0, 0, 5) = 5; put(0, 5, 9) = 0; read(0) = 6;" + keysAre(2, 3, 4, 5, 6, 9) + "copy(0, 0, 0, 0, 6) = 6; read(0) = 6;" + keysAre(2, 3, 4, 5, 6, 9),
                "sheet(0, 8, 12); sheet(1, 8, 12); put(0, 0, 7); put(0, 11, 5); copy(0, 0, 1, 0, 12) = 12; read(1) = 1;" + keysAre(7) + "copy(1, 11, 1, 0, 1) = 1; read(1) = 1;" + keysAre(5)
                        + "copy(1, 12, 0, 12, 0) = 0; copy(1, 0, 0, 0, 0) = 0; told(4) = 2",
                "sheet(0, 8, 0); sheet(1, 8, 0); copy(0, 0, 1, 0, 0) = 0; copy(0, 0, 0, 0, 0) = 0; copy(0, 0, 1, 0, 1) = BEYOND",
                "sheet(0, 8, 2); sheet(1, 8, 2); put(0, 0, 256); put(0, 1, 3); put(1, 0, 4); copy(0, 0, 1, 0, 2) = 2; read(1) = 0; copy(0, 1, 1, 0, 1) = 1; read(1) = SIZE; put(1, 1, 4); read(1) = 2");
        b.sentence("Promise 33", "BEYOND: no such sheet (either).",
                Script.each("copy(#, 0, 0, 0, 0) = BEYOND; copy(0, 0, #, 0, 0) = BEYOND", -1, 4, LEAST, MOST) + "sheet(0, 8, 1); sheet(3, 8, 1);"
                        + Script.each("copy(#, 0, 0, 0, 1) = BEYOND; copy(0, 0, #, 0, 1) = BEYOND", -1, 4, LEAST, MOST) + "copy(4, 0, 4, 0, 0) = BEYOND; copy(0, 0, 3, 0, 1) = 1; copy(3, 0, 0, 0, 1) = 1",
                "copy(1, 0, 4, 0, 1) = BEYOND; copy(-1, 0, 1, 0, 1) = BEYOND",
                Halls.RICH + "copy(4, 0, 0, 0, 1) = BEYOND; copy(0, 0, 4, 0, 1) = BEYOND; copy(-1, 0, 3, 0, -1) = BEYOND; copy(3, 0, -1, 0, -1) = BEYOND");
        b.sentence("Promise 33", "MISSING: one is.",
                "copy(0, 0, 1, 0, 0) = MISSING; copy(0, 0, 0, 0, 0) = MISSING; sheet(0, 8, 2); copy(0, 0, 1, 0, 0) = MISSING; copy(1, 0, 0, 0, 0) = MISSING; copy(0, 0, 1, 0, -1) = MISSING;"
                        + "copy(1, -1, 0, 0, 0) = MISSING; sheet(1, 16, 2); copy(0, 0, 1, 0, 0) = KIND; sheet(1, 0, 2); copy(0, 0, 1, 0, 0) = MISSING; sheet(1, 8, 0); copy(0, 0, 1, 0, 0) = 0",
                Halls.RICH + "copy(0, 0, 3, 0, 1) = MISSING; copy(3, 0, 0, 0, 1) = MISSING; copy(3, 9, 3, 9, 9) = MISSING");
        b.sentence("Promise 33", "KIND: they are not of as many bits.",
                laid(0, 8, 1, 2) + laid(1, 16, 3, 4) + laid(2, 32, 5, 6) + "copy(0, 0, 1, 0, 1) = KIND; copy(1, 0, 0, 0, 1) = KIND; copy(0, 0, 2, 0, 1) = KIND; copy(2, 0, 0, 0, 1) = KIND;"
                        + "copy(1, 0, 2, 0, 1) = KIND; copy(2, 0, 1, 0, 1) = KIND; copy(0, 0, 1, 0, 0) = KIND; copy(0, 0, 1, 0, -1) = KIND; copy(0, -1, 1, 0, 1) = KIND; copy(0, 0, 1, 9, 1) = KIND;"
                        + "copy(0, 0, 1, 0, 3) = KIND; copy(1, 0, 1, 1, 1) = 1; copy(2, 0, 2, 1, 1) = 1",
                Halls.RICH + "copy(0, 0, 1, 0, 1) = KIND; copy(1, 0, 2, 0, 99) = KIND; copy(0, 0, 2, 0, 4) = 4");
        b.sentence("Promise 33", "BEYOND: one has not so many, or from, to or n is below 0.",
                laid(0, 8, 1, 2, 3, 4) + laid(1, 8, 9, 8) + "copy(0, 0, 1, 0, 3) = BEYOND; copy(1, 0, 0, 0, 3) = BEYOND; copy(0, 0, 1, 0, 2) = 2; copy(1, 0, 0, 0, 2) = 2; copy(0, 3, 1, 0, 2) = BEYOND;"
                        + "copy(0, 2, 1, 0, 2) = 2; copy(0, 0, 1, 1, 2) = BEYOND; copy(0, 0, 1, 1, 1) = 1; copy(1, 1, 0, 3, 1) = 1; copy(1, 1, 0, 4, 1) = BEYOND; copy(1, 2, 0, 0, 1) = BEYOND",
                laid(0, 8, 1, 2, 3, 4) + laid(1, 8, 9, 8) + Script.each("copy(0, #, 1, 0, 1) = BEYOND; copy(0, 0, 1, #, 1) = BEYOND; copy(0, 0, 1, 0, #) = BEYOND", -1, LEAST, MOST)
                        + Script.each("copy(0, #, 1, 0, 0) = BEYOND; copy(0, 0, 1, #, 0) = BEYOND", -1, LEAST, MOST)
                        + "copy(0, -1, 1, 0, 2) = BEYOND; copy(0, 1, 1, -1, 2) = BEYOND; copy(0, 1, 1, 1, -1) = BEYOND",
                laid(0, 8, 1, 2, 3, 4) + laid(1, 8, 9, 8) + "copy(0, 1, 1, 1, " + MOST + ") = BEYOND; copy(0, " + MOST + ", 1, 0, " + MOST + ") = BEYOND; copy(0, 0, 1, " + MOST + ", " + MOST + ") = BEYOND;"
                        + "copy(0, " + LEAST + ", 1, " + LEAST + ", " + LEAST + ") = BEYOND; copy(0, " + MOST + ", 1, " + MOST + ", 2) = BEYOND",
                laid(0, 8, 1, 2, 3, 4) + "copy(0, 0, 0, 1, 4) = BEYOND; copy(0, 1, 0, 0, 4) = BEYOND; copy(0, 4, 0, 4, 0) = 0; copy(0, 5, 0, 0, 0) = BEYOND; copy(0, 0, 0, 5, 0) = BEYOND",
                Halls.RICH + "copy(0, 0, 2, 9, 4) = BEYOND; copy(2, 0, 0, 0, 5) = BEYOND; copy(2, -1, 0, 0, 1) = BEYOND; copy(2, 0, 0, -1, 1) = BEYOND; copy(2, 0, 0, 0, -1) = BEYOND; copy(0, 0, 2, 8, 4) = 4");
    }

    private static void read(Bounds b) {
        b.sentence("Promise 34", "THE RULE becomes the KEYS of a sheet, from the first on, up to the first 0, or its end: how many.",
                "key(1); key(2); sheet(0, 8, 0); read(0) = 0;" + keysAre() + "key(3); sheet(0, 8, 12); read(0) = 0;" + keysAre(),
                laid(0, 8, 9) + "key(1); read(0) = 1;" + keysAre(9), laid(3, 32, 0, 99, 99) + "key(1); read(3) = 0;" + keysAre(),
                laid(0, 16, 6, 5, 4, 3, 2, 1) + "read(0) = 6;" + keysAre(6, 5, 4, 3, 2, 1) + "read(0) = 6; read(0) = 6;" + keysAre(6, 5, 4, 3, 2, 1),
                laid(0, 8, 1, 2, 3, 4, 5, 6, 0, 7, 7, 99, 8, 9) + "read(0) = 6; key(7) = FULL;" + keysAre(1, 2, 3, 4, 5, 6),
                "member(0, 0); member(2, 0); ask(0, 2); ask(1, 0);" + laid(0, 8, 9, 1) + laid(1, 8, 1, 9) + "read(0) = 2; listed(0, false) = 1; read(1) = 2; listed(0, false) = 0; put(1, 0, 9); put(1, 1, 0);"
                        + "listed(0, false) = 0; read(1) = 1; listed(0, false) = 1");
        b.sentence("Promise 34", "BEYOND: no such sheet.",
                Script.each("read(#) = BEYOND", -1, 4, LEAST, MOST) + "sheet(0, 8, 1); sheet(3, 8, 1); read(0) = 0; read(3) = 0; key(1); read(4) = BEYOND; told(2) = 1",
                Halls.RICH + "read(4) = BEYOND; read(-1) = BEYOND; told(2) = 3");
        b.sentence("Promise 34", "MISSING.",
                "key(1);" + Script.each("read(#) = MISSING", 0, 1, 2, 3) + "told(2) = 1; sheet(0, 8, 0); sheet(0, 0, 0); read(0) = MISSING; told(2) = 1",
                Halls.RICH + "read(3) = MISSING; told(2) = 3");
        b.sentence("Promise 34", "BEYOND: one of them is no KEY.",
                "key(3);" + laid(0, 8, 9, 1, 10) + "read(0) = BEYOND; told(2) = 1; put(0, 2, 0); read(0) = 2; put(0, 0, 10); read(0) = BEYOND; put(0, 0, 255); read(0) = BEYOND; told(2) = 2",
                laid(0, 32, 1, -1) + "read(0) = BEYOND; put(0, 1, " + LEAST + "); read(0) = BEYOND; put(0, 1, " + MOST + "); read(0) = BEYOND; put(0, 1, 10); read(0) = BEYOND; put(0, 1, 9); read(0) = 2",
                laid(0, 8, 1, 1, 10) + "read(0) = BEYOND; put(0, 2, 2); read(0) = SIZE",
                laid(0, 8, 1, 2, 3, 4, 5, 6, 7, 10) + "read(0) = BEYOND; put(0, 7, 8); read(0) = FULL",
                laid(0, 8, 1, 1, 2, 3, 4, 5, 6, 7, 8, 9, 1, 77) + "read(0) = BEYOND; put(0, 11, 9); read(0) = SIZE; put(0, 1, 0); read(0) = 1",
                Halls.RICH + "put(0, 3, 10); read(0) = BEYOND; put(1, 0, 300); read(1) = BEYOND");
        b.sentence("Promise 34", "SIZE: one comes twice.",
                "key(3);" + laid(0, 8, 1, 1) + "read(0) = SIZE; told(2) = 1; put(0, 1, 0); read(0) = 1; put(0, 1, 2); read(0) = 2; put(0, 0, 2); read(0) = SIZE",
                laid(0, 8, 9, 2, 3, 4, 5, 9) + "read(0) = SIZE; put(0, 5, 8); read(0) = 6",
                laid(0, 8, 1, 2, 3, 4, 5, 6, 7, 1) + "read(0) = SIZE; put(0, 7, 0); read(0) = FULL", laid(0, 8, 1, 2, 3, 4, 5, 6, 6) + "read(0) = SIZE; put(0, 6, 7); read(0) = FULL",
                laid(0, 8, 1, 0, 1) + "key(1); read(0) = 1;" + keysAre(1),
                Halls.RICH + "put(0, 3, 5); read(0) = SIZE; put(1, 2, 4); read(1) = SIZE");
        b.sentence("Promise 34", "FULL: there are more than 6.",
                "key(3);" + laid(0, 8, 1, 2, 3, 4, 5, 6, 7) + "read(0) = FULL; told(2) = 1; put(0, 6, 0); read(0) = 6;" + keysAre(1, 2, 3, 4, 5, 6),
                laid(0, 8, 1, 2, 3, 4, 5, 6, 7, 8, 9) + "read(0) = FULL; put(0, 8, 0); read(0) = FULL; put(0, 6, 0); read(0) = 6",
                laid(0, 8, 9, 8, 7, 6, 5, 4, 3, 2, 1, 0, 0, 99) + "read(0) = FULL", Script.times(6, i -> "key(" + (i + 4) + ")") + laid(0, 8, 1, 2, 3, 4, 5, 6) + "read(0) = 6;" + keysAre(1, 2, 3, 4, 5, 6),
                Halls.RICH + Script.times(7, i -> "put(2, " + i + ", " + (i + 3) + ")") + "read(2) = FULL; put(2, 6, 0); read(2) = 6");
    }

    private static void told(Bounds b) {
        b.sentence("Promise 35", "0 members, 1 ASKINGS, 2 KEYS, 3 rows of MINUTES, 4 how many acts answered a finding ever (this one, too, if it does), "
                        + "5 the latest count of what was PUT RIGHT, 6 whether THE VOTE is open (1, 0).",
                Halls.RICH + "told(0) = 7; told(1) = 6; told(2) = 3; told(3) = 3; told(4) = 0; told(5) = 3; told(6) = 1; close(1); told(6) = 0; told(4) = 0",
                Halls.members(10) + Halls.askings(20) + Script.times(6, i -> "key(" + (i + 1) + ")") + "told(0) = 10; told(1) = 20; told(2) = 6",
                Halls.members(5) + Halls.fiveRows(20) + "told(3) = 100;" + Halls.speech(0, 1) + "told(3) = 100",
                "told(4) = 0; told(7) = BEYOND; told(4) = 1; told(4) = 1; member(9, 9) = BEYOND; told(4) = 2; yield() = NONE; told(4) = 3; read(0) = MISSING; told(4) = 4; sheet(0, 8, -1) = SIZE;"
                        + "told(4) = 5; member(0, 0); as(0, 1) = KIND; told(4) = 6; vote(); vote() = BUSY; told(4) = 7; member(2, 0); key(9); ask(0, 0); ask(1, 0); wait(0) = NEVER; told(4) = 8",
                Halls.members(10) + "told(4) = 0; member(0, 0) = FULL; told(4) = 1; present(0, true) = 0; told(4) = 1");
        b.sentence("Promise 35", "BEYOND: another what.",
                Script.each("told(#) = BEYOND", -1, 7, LEAST, MOST) + "told(4) = 4; told(0) = 0; told(6) = 0",
                Halls.RICH + "told(-1) = BEYOND; told(7) = BEYOND; told(4) = 2");
    }
}
