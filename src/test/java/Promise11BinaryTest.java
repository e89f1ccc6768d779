@Case("promise 11, binary")
public final class Promise11BinaryTest {
    private static final int INDIRECT = 1, INDEX = 4;

    public static void main(String[] arguments) {
        Cases.run(Promise11BinaryTest.class);
    }

    /** Structures of 6 bytes from 100 on, whose keys of 2 bytes lie 3 bytes behind their places. */
    private static Run rows(int... keys) {
        Run run = new Run();
        for (int i = 0; i < keys.length; i++) {
            run.due(1, "set", 103 + 6 * i, 2, keys[i]);
        }
        return run;
    }

    @Case("each of the structures is found, for every n: the first, the last, those between; nothing changes")
    static void found() {
        Run run = rows(2, 4, 6, 8, 10, 12, 14);
        for (int n = 1; n <= 7; n++) {
            for (int i = 0; i < n; i++) {
                run.due(100 + 6 * i, "binary", 2 + 2 * i, 2, 100, 6, n, 3, 0);
                run.due(i, "binary", 2 + 2 * i, 2, 100, 6, n, 3, INDEX);
            }
        }
        run.idle(106, "binary", 4, 2, 100, 6, 7, 3, 0);
    }

    @Case("none: less than all, between two, greater than all: 0, with INDEX -1; nothing changes")
    static void none() {
        Run run = rows(2, 4, 6, 8, 10, 12, 14);
        for (int n = 1; n <= 7; n++) {
            for (int key = 1; key <= 15; key += 2) {
                run.due(-1, "binary", key, 2, 100, 6, n, 3, INDEX);
                run.due(0, "binary", key, 2, 100, 6, n, 3, 0);
            }
            run.due(-1, "binary", 2 + 2 * n, 2, 100, 6, n, 3, INDEX);
        }
        run.idle(0, "binary", 5, 2, 100, 6, 7, 3, 0);
    }

    @Case("n 0: there is none, wherever the structures would lie; BAD: n below 0")
    static void noneOfThem() {
        Run run = rows(2);
        run.due(0, "binary", 2, 2, 100, 6, 0, 3, 0);
        run.due(-1, "binary", 2, 2, 100, 6, 0, 3, INDEX);
        run.due(0, "binary", 2, 2, Run.MOST, Run.MOST, 0, Run.MOST, 0);
        run.refused(Run.BAD, "binary", 2, 2, 100, 6, -1, 3, 0);
        run.refused(Run.BAD, "binary", 2, 2, 100, 6, Run.LEAST, 3, 0);
    }

    @Case("structure (low + high) / 2, cut, comes first: which of those that are alike is found")
    static void alike() {
        Run run = rows(7, 7, 7, 7, 7, 7);
        int[] due = {-1, 0, 1, 1, 2, 2, 3};
        for (int n = 0; n <= 6; n++) {
            run.due(due[n], "binary", 7, 2, 100, 6, n, 3, INDEX);
        }
        run = rows(5, 7, 7, 7, 7, 7);
        run.due(3, "binary", 7, 2, 100, 6, 6, 3, INDEX);
        run = rows(5, 5, 5, 5, 7, 7);
        run.due(5, "binary", 7, 2, 100, 6, 6, 3, INDEX);
        run = rows(7, 7, 9, 9, 9, 9);
        run.due(1, "binary", 7, 2, 100, 6, 6, 3, INDEX);
    }

    @Case("structures that are not sorted: the same steps, so that some are not come to")
    static void unsorted() {
        Run run = rows(9, 1, 5);
        run.due(-1, "binary", 9, 2, 100, 6, 3, 3, INDEX);
        run.due(2, "binary", 5, 2, 100, 6, 3, 3, INDEX);
        run.due(1, "binary", 1, 2, 100, 6, 3, 3, INDEX);
        run = rows(5, 9, 1);
        run.due(-1, "binary", 1, 2, 100, 6, 3, 3, INDEX);
        run.due(0, "binary", 5, 2, 100, 6, 3, 3, INDEX);
    }

    @Case("less, byte by byte and without signs: 127 and 128, the first byte ahead of the second")
    static void order() {
        Run run = rows(0x007F, 0x0080, 0x00FF, 0x0100, 0x7F00, 0x8000, 0xFF00);
        int[] keys = {0x007F, 0x0080, 0x00FF, 0x0100, 0x7F00, 0x8000, 0xFF00};
        for (int i = 0; i < keys.length; i++) {
            run.due(i, "binary", keys[i], 2, 100, 6, 7, 3, INDEX);
        }
        run.due(-1, "binary", 0x0081, 2, 100, 6, 7, 3, INDEX);
        run.due(-1, "binary", 0xFFFF, 2, 100, 6, 7, 3, INDEX);
        run.due(-1, "binary", 0, 2, 100, 6, 7, 3, INDEX);
    }

    @Case("less, in keys of 64 bytes that differ in their last byte alone")
    static void longKeys() {
        Run run = new Run();
        for (int i = 0; i < 3; i++) {
            run.due(1, "set", 163 + 64 * i, 1, new int[] {1, 128, 255}[i]);
        }
        for (int i = 0; i < 3; i++) {
            run.due(i, "binary", 100 + 64 * i, 64, 100, 64, 3, 0, INDIRECT + INDEX);
        }
        run.due(100, "binary", 500, 63, 100, 64, 1, 0, INDIRECT);
        run.due(-1, "binary", 500, 64, 100, 64, 3, 0, INDIRECT + INDEX);
    }

    @Case("a KEY that is a number: k 1, 2 or 4; BAD: another; INDIRECT: 1 to 64; BAD: 0, 65")
    static void keyLengths() {
        Run run = rows(0x0102);
        run.due(103, "binary", 0x7701, 1, 103, 1, 1, 0, 0);
        run.due(103, "binary", 0x77770102, 2, 103, 1, 1, 0, 0);
        run.due(103, "binary", 0x01020000, 4, 103, 1, 1, 0, 0);
        for (int k : new int[] {0, 3, 5, 8, 64, -1, Run.MOST, Run.LEAST}) {
            run.refused(Run.BAD, "binary", 5, k, 100, 6, 1, 3, 0);
        }
        run.due(103, "binary", 103, 1, 103, 1, 1, 0, INDIRECT);
        run.due(103, "binary", 103, 64, 103, 1, 1, 0, INDIRECT);
        for (int k : new int[] {0, 65, -1, Run.MOST, Run.LEAST}) {
            run.refused(Run.BAD, "binary", 103, k, 103, 1, 1, 0, INDIRECT);
        }
    }

    @Case("BAD: ZERO, alone and with others; other OPTIONS: 0, 1, 4, 5; BAD: -1, 8")
    static void options() {
        Run run = rows(2);
        for (int options : new int[] {0, 1, 4, 5}) {
            int key = (options & INDIRECT) != 0 ? 103 : 2;
            run.due((options & INDEX) != 0 ? 0 : 100, "binary", key, 2, 100, 6, 1, 3, options);
        }
        for (int options : new int[] {2, 3, 6, 7, -1, 8, 12, Run.MOST, Run.LEAST}) {
            run.refused(Run.BAD, "binary", 2, 2, 100, 6, 1, 3, options);
        }
    }

    @Case("BAD: width, start or offset below 0; 0 is as told")
    static void belowZero() {
        Run run = rows(2);
        run.refused(Run.BAD, "binary", 2, 2, 100, -1, 1, 3, 0);
        run.refused(Run.BAD, "binary", 2, 2, -1, 6, 1, 104, 0);
        run.refused(Run.BAD, "binary", 2, 2, 104, 6, 1, -1, 0);
        run.refused(Run.BAD, "binary", 2, 2, Run.LEAST, Run.LEAST, 1, Run.LEAST, 0);
        run.due(103, "binary", 2, 2, 103, 0, 1, 0, 0);
        run.due(0, "binary", 7, 1, 0, 1, 1, 1, 0);
        run.due(0, "binary", 7, 1, 0, 1, 1, 1, INDEX);
    }

    @Case("OUTSIDE: the KEY that is looked for, ahead of all; the last place for it")
    static void keyOutside() {
        Run run = rows(2);
        run.due(0, "binary", 1022, 2, 100, 6, 1, 3, INDIRECT);
        run.refused(Run.OUTSIDE, "binary", 1023, 2, 100, 6, 1, 3, INDIRECT);
        run.refused(Run.OUTSIDE, "binary", 961, 64, 100, 6, 0, 3, INDIRECT);
        run.refused(Run.OUTSIDE, "binary", -1, 2, 100, 6, 0, 3, INDIRECT);
        run.refused(Run.OUTSIDE, "binary", Run.MOST, 64, 100, 6, 1, 3, INDIRECT);
    }

    @Case("OUTSIDE: a structure's KEY has to be there wholly, but only of those that the search comes to")
    static void structureOutside() {
        Run run = rows(2);
        run.due(0, "binary", 9, 2, 1022, 6, 1, 0, 0);
        run.refused(Run.OUTSIDE, "binary", 9, 2, 1023, 6, 1, 0, 0);
        run.refused(Run.OUTSIDE, "binary", 9, 2, 1000, 6, 1, 23, 0);
        // Three structures at 1010, 1016, 1022: keys of 4 bytes, the last of which is not there wholly.
        run.due(1, "set", 1016, 4, 50);
        run.due(1016, "binary", 50, 4, 1010, 6, 3, 0, 0);
        run.due(0, "binary", 49, 4, 1010, 6, 3, 0, 0);
        run.refused(Run.OUTSIDE, "binary", 51, 4, 1010, 6, 3, 0, 0);
    }

    @Case("places are reckoned without an end to numbers: OUTSIDE where they would wrap around into MEMORY")
    static void wraps() {
        Run run = rows(2);
        // The middle one, 1073741823, would lie at 107 - 4 = 103 if 2 to the 32nd were 0.
        run.refused(Run.OUTSIDE, "binary", 2, 2, 107, 4, Run.MOST, 0, 0);
        run.refused(Run.OUTSIDE, "binary", 2, 2, Run.MOST, Run.MOST, Run.MOST, Run.MOST, 0);
        run.refused(Run.OUTSIDE, "binary", 2, 2, Run.MOST, 1, 1, Run.MOST, 0);
        run.refused(Run.OUTSIDE, "binary", 2, 2, 103, Run.MOST, 4, 0, 0);
    }

    @Case("the greatest n: low + high does not wrap around, and the search is never ENDLESS")
    static void greatestNumber() {
        Run run = rows(7);
        run.due(1073741823, "binary", 7, 2, 100, 0, Run.MOST, 3, INDEX);
        run.due(100, "binary", 7, 2, 100, 0, Run.MOST, 3, 0);
        run.due(-1, "binary", 6, 2, 100, 0, Run.MOST, 3, INDEX);
        run.due(-1, "binary", 8, 2, 100, 0, Run.MOST, 3, INDEX);
        run.due(0, "binary", 8, 2, 100, 0, 3001, 3, 0);
    }

    @Case("BAD comes ahead of OUTSIDE")
    static void badFirst() {
        Run run = rows(2);
        run.refused(Run.BAD, "binary", -1, 2, 100, 6, -1, 3, INDIRECT);
        run.refused(Run.BAD, "binary", 1023, 2, 100, 6, 1, 3, INDIRECT + 2);
        run.refused(Run.BAD, "binary", 2, 3, 5000, 6, 1, 3, 0);
    }
}
