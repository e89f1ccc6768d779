/** Promises 10 to 12. */
public final class SearchTest {
    private static final int MOST = Integer.MAX_VALUE, LEAST = Integer.MIN_VALUE;
    private static final int INDIRECT = 1, ZERO = 2, INDEX = 4;

    public static void main(String[] arguments) {
        linear();
        linearEnds();
        linearBad();
        binary();
        binaryOrder();
        binaryBad();
        linked();
        linkedEnds();
        linkedBad();
        Run.end();
    }

    /** Structures of 6 bytes from 100 on, whose keys of 2 bytes lie 3 bytes behind their places. */
    private static Run rows(String title, int... keys) {
        Run run = new Run(title);
        for (int i = 0; i < keys.length; i++) {
            run.due(1, "set", 103 + 6 * i, 2, keys[i]);
        }
        return run;
    }

    private static void linear() {
        Run run = rows("10 linear", 0x0102, 0x8001, 0x0102, 0xFFFF);
        run.due(100, "linear", 0x0102, 2, 100, 6, 4, 3, 0);
        run.due(0, "linear", 0x0102, 2, 100, 6, 4, 3, INDEX);
        run.due(106, "linear", 0x7FFF8001, 2, 100, 6, 4, 3, 0);
        run.due(3, "linear", -1, 2, 100, 6, 4, 3, INDEX);
        run.due(3, "linear", -1, 2, 100, 6, -1, 3, INDEX);
        run.due(-1, "linear", -1, 2, 100, 6, 3, 3, INDEX);
        run.due(0, "linear", -1, 2, 100, 6, 3, 3, 0);
        run.due(0, "linear", 0x0102, 2, 100, 6, 0, 3, 0);
        run.due(-1, "linear", 0x0102, 2, 100, 6, 0, 3, INDEX);
        run.due(106, "linear", 109, 2, 100, 6, 4, 3, INDIRECT);
        run.due(1, "linear", 109, 1, 100, 6, 4, 3, INDIRECT + INDEX);
        run.due(112, "linear", 115, 8, 100, 6, 4, 3, INDIRECT);
        run.due(1, "set", 130, 4, 0x01020304);
        run.due(130, "linear", 0x01020304, 4, 126, 4, 2, 0, 0);
        run.due(0, "linear", 0x02020304, 4, 126, 4, 2, 0, 0);
        run.due(0, "linear", 0, 1, 0, 1, 1, 0, 0);
        run.due(0, "linear", 0, 64, 0, 1, 1, 0, INDIRECT + INDEX);
    }

    private static void linearEnds() {
        Run run = rows("10 linear, its ends", 5, 6, 0, 7);
        run.due(0, "linear", 7, 2, 100, 6, -1, 3, ZERO);
        run.due(-1, "linear", 7, 2, 100, 6, 4, 3, ZERO + INDEX);
        run.due(3, "linear", 7, 2, 100, 6, 4, 3, INDEX);
        run.due(2, "linear", 0, 2, 100, 6, 4, 3, ZERO + INDEX);
        run.due(1, "linear", 6, 2, 100, 6, 4, 3, ZERO + INDEX);
        run.due(1, "linear", 109, 2, 100, 6, 4, 3, INDIRECT + ZERO + INDEX);
        // The byte behind a key of 0s does not belong to it.
        run.due(0, "linear", 7, 1, 102, 19, 2, 1, ZERO);
        run.due(121, "linear", 7, 1, 102, 19, 2, 1, 0);
        run.due(Run.OUTSIDE, "linear", 9, 2, 100, 6, -1, 3, 0);
        run.due(-1, "linear", 9, 2, 1015, 3, 3, 0, INDEX);
        run.due(-1, "linear", 9, 2, 1016, 3, 3, 0, INDEX);
        run.due(Run.OUTSIDE, "linear", 9, 2, 1017, 3, 3, 0, INDEX);
        run.due(1, "set", 1023, 1, 3);
        run.due(1023, "linear", 3, 1, 1000, 1, -1, 0, 0);
        run.due(Run.OUTSIDE, "linear", 3, 1, 1024, 1, 1, 0, 0);
        run.due(Run.OUTSIDE, "linear", 3, 1, 0, 1, 1, 1024, 0);
        run.due(Run.OUTSIDE, "linear", 3, 1, MOST, MOST, MOST, MOST, 0);
        run.due(Run.OUTSIDE, "linear", 3, 1, 100, MOST, -1, 0, 0);
        run.due(0, "linear", 3, 1, MOST, MOST, 0, MOST, 0);
        run.due(Run.OUTSIDE, "linear", 1023, 2, 100, 6, 0, 3, INDIRECT);
        run.due(Run.OUTSIDE, "linear", -1, 2, 100, 6, 0, 3, INDIRECT);
        run.due(Run.OUTSIDE, "linear", LEAST, 2, 100, 6, 4, 3, INDIRECT);
        run.due(Run.OUTSIDE, "linear", MOST, 64, 100, 6, 4, 3, INDIRECT);
        run.due(Run.ENDLESS, "linear", 9, 1, 104, 0, -1, 0, 0);
        run.due(Run.ENDLESS, "linear", 9, 1, 104, 0, -1, 0, ZERO);
        run.due(0, "linear", 9, 1, 104, 0, 3000, 0, 0);
        run.due(Run.ENDLESS, "linear", 9, 1, 104, 0, 3001, 0, 0);
        run.due(Run.ENDLESS, "linear", 9, 1, 104, 0, MOST, 0, 0);
        run.due(-1, "linear", 9, 1, 200, 0, -1, 0, ZERO + INDEX);
        run.due(1024, "resize", 8192);
        run.due(1, "set", 200 + 2999, 1, 99);
        run.due(2999, "linear", 99, 1, 200, 1, -1, 0, INDEX);
        run.due(Run.ENDLESS, "linear", 99, 1, 199, 1, -1, 0, INDEX);
        // At the 3001st structure it is endless, wherever that structure would lie.
        run.due(8192, "resize", 3072);
        run.due(Run.ENDLESS, "linear", 98, 1, 72, 1, -1, 0, 0);
        run.due(Run.OUTSIDE, "linear", 98, 1, 73, 1, -1, 0, 0);
        run.due(0, "linear", 98, 1, 72, 1, 3000, 0, 0);
    }

    private static void linearBad() {
        Run run = new Run("10 linear, wrong inputs");
        run.due(Run.BAD, "linear", 5, 1, 100, -1, 4, 0, 0);
        run.due(Run.BAD, "linear", 5, 1, 100, 4, -2, 0, 0);
        run.due(Run.BAD, "linear", 5, 1, 100, 4, LEAST, 0, 0);
        run.due(Run.BAD, "linear", 5, 1, 100, 4, 4, -1, 0);
        run.due(Run.BAD, "linear", 5, 1, -1, 4, 4, 0, 0);
        for (int k : new int[] {LEAST, -1, 0, 3, 5, 8, 64, MOST}) {
            run.due(Run.BAD, "linear", 5, k, 100, 4, 4, 0, 0);
        }
        for (int k : new int[] {LEAST, -1, 0, 65, MOST}) {
            run.due(Run.BAD, "linear", 5, k, 100, 4, 4, 0, INDIRECT);
        }
        for (int options : new int[] {LEAST, -1, 8, 9, MOST}) {
            run.due(Run.BAD, "linear", 5, 1, 100, 4, 4, 0, options);
        }
        run.due(Run.BAD, "linear", -1, 65, 5000, 4, 4, 0, INDIRECT);
    }

    private static void binary() {
        Run run = rows("11 binary", 2, 4, 6, 8, 10);
        for (int i = 0; i < 5; i++) {
            run.due(100 + 6 * i, "binary", 2 + 2 * i, 2, 100, 6, 5, 3, 0);
            run.due(i, "binary", 2 + 2 * i, 2, 100, 6, 5, 3, INDEX);
            run.due(i, "binary", 103 + 6 * i, 2, 100, 6, 5, 3, INDIRECT + INDEX);
        }
        for (int key = 1; key <= 11; key += 2) {
            run.due(0, "binary", key, 2, 100, 6, 5, 3, 0);
            run.due(-1, "binary", key, 2, 100, 6, 5, 3, INDEX);
        }
        run.due(-1, "binary", 2, 2, 100, 6, 0, 3, INDEX);
        run.due(-1, "binary", 10, 2, 100, 6, 4, 3, INDEX);
        // Which of those with the same key is found is told by the halving alone.
        run = rows("11 binary, many alike", 7, 7, 7, 7, 7, 7);
        run.due(3, "binary", 7, 2, 100, 6, 6, 3, INDEX);
        run.due(2, "binary", 7, 2, 100, 6, 5, 3, INDEX);
        run.due(0, "binary", 7, 2, 100, 6, 1, 3, INDEX);
        run.due(MOST / 2, "binary", 7, 2, 100, 0, MOST, 3, INDEX);
        run.due(-1, "binary", 6, 2, 100, 0, MOST, 3, INDEX);
        run.due(-1, "binary", 8, 2, 100, 0, MOST, 3, INDEX);
    }

    private static void binaryOrder() {
        Run run = rows("11 binary, bytes without signs", 0x007F, 0x0080, 0x7FFF, 0x8000, 0xFF00);
        run.due(0, "binary", 0x007F, 2, 100, 6, 5, 3, INDEX);
        run.due(1, "binary", 0x0080, 2, 100, 6, 5, 3, INDEX);
        run.due(3, "binary", 0x8000, 2, 100, 6, 5, 3, INDEX);
        run.due(4, "binary", 0xFF00, 2, 100, 6, 5, 3, INDEX);
        // An unsorted row is searched by the same steps.
        run = rows("11 binary, unsorted", 9, 1, 5);
        run.due(-1, "binary", 9, 2, 100, 6, 3, 3, INDEX);
        run.due(-1, "binary", 5, 2, 106, 6, 1, 3, INDEX);
        run.due(2, "binary", 5, 2, 100, 6, 3, 3, INDEX);
    }

    private static void binaryBad() {
        Run run = new Run("11 binary, wrong inputs");
        run.due(Run.OUTSIDE, "binary", 1, 1, 100, 1, MOST, 0, 0);
        run.due(Run.OUTSIDE, "binary", 1, 1, MOST, MOST, MOST, MOST, 0);
        run.due(Run.OUTSIDE, "binary", 1, 2, 1023, 1, 1, 0, 0);
        run.due(Run.OUTSIDE, "binary", 1023, 2, 100, 1, 0, 0, INDIRECT);
        run.due(Run.OUTSIDE, "binary", -5, 2, 100, 1, 0, 0, INDIRECT);
        run.due(0, "binary", 1, 2, MOST, MOST, 0, MOST, 0);
        run.due(Run.BAD, "binary", 1, 1, 100, -1, 4, 0, 0);
        run.due(Run.BAD, "binary", 1, 1, 100, 4, -1, 0, 0);
        run.due(Run.BAD, "binary", 1, 1, 100, 4, 4, -1, 0);
        run.due(Run.BAD, "binary", 1, 1, -1, 4, 4, 0, 0);
        run.due(Run.BAD, "binary", 1, 3, 100, 4, 4, 0, 0);
        run.due(Run.BAD, "binary", 1, 0, 100, 4, 4, 0, INDIRECT);
        run.due(Run.BAD, "binary", 1, 65, 100, 4, 4, 0, INDIRECT);
        for (int options : new int[] {LEAST, -1, 2, 3, 6, 7, 8, MOST}) {
            run.due(Run.BAD, "binary", 1, 1, 100, 4, 4, 0, options);
        }
    }

    /** A chain 200, 300, 250 of structures: the next place 2 bytes behind, the key 6 bytes behind. */
    private static Run chain(String title) {
        Run run = new Run(title);
        run.due(1, "set", 202, 4, 300);
        run.due(1, "set", 206, 2, 11);
        run.due(1, "set", 302, 4, 250);
        run.due(1, "set", 306, 2, 12);
        run.due(1, "set", 256, 2, 13);
        return run;
    }

    private static void linked() {
        Run run = chain("12 linked");
        run.due(200, "linked", 11, 2, 200, 6, 2, 0);
        run.due(300, "linked", 12, 2, 200, 6, 2, 0);
        run.due(250, "linked", 13, 2, 200, 6, 2, 0);
        run.due(0, "linked", 14, 2, 200, 6, 2, 0);
        run.due(0, "linked", 11, 2, 300, 6, 2, 0);
        run.due(0, "linked", 11, 2, 0, 6, 2, 0);
        run.due(300, "linked", 306, 2, 200, 6, 2, INDIRECT);
        run.due(250, "linked", 256, 64, 200, 6, 2, INDIRECT);
        run.due(1, "set", 306, 2, 0);
        run.due(0, "linked", 13, 2, 200, 6, 2, ZERO);
        run.due(250, "linked", 13, 2, 200, 6, 2, 0);
        run.due(300, "linked", 0, 2, 200, 6, 2, ZERO);
        run.due(300, "linked", 400, 2, 300, 6, 2, INDIRECT + ZERO);
    }

    private static void linkedEnds() {
        Run run = chain("12 linked, its ends");
        run.due(1, "set", 252, 4, 0x80000000);
        run.due(Run.OUTSIDE, "linked", 14, 2, 200, 6, 2, 0);
        run.due(250, "linked", 13, 2, 200, 6, 2, 0);
        run.due(1, "set", 252, 4, -1);
        run.due(Run.OUTSIDE, "linked", 14, 2, 200, 6, 2, 0);
        run.due(1, "set", 252, 4, 1020);
        run.due(Run.OUTSIDE, "linked", 14, 1, 200, 0, 2, 0);
        run.due(1, "set", 252, 4, 1018);
        run.due(0, "linked", 14, 1, 200, 0, 2, 0);
        run.due(1, "set", 252, 4, 200);
        run.due(Run.ENDLESS, "linked", 14, 2, 200, 6, 2, 0);
        run.due(Run.ENDLESS, "linked", 14, 2, 200, 6, 2, ZERO);
        run.due(Run.OUTSIDE, "linked", 14, 2, MOST, MOST, MOST, 0);
        run.due(Run.OUTSIDE, "linked", 14, 2, 200, MOST, 2, 0);
        run.due(Run.OUTSIDE, "linked", 14, 2, 200, 6, MOST, 0);
        run.due(200, "linked", 11, 2, 200, 6, MOST, 0);
        run.due(Run.OUTSIDE, "linked", 1023, 2, 0, 6, 2, INDIRECT);
        run.due(Run.OUTSIDE, "linked", -1, 2, 0, 6, 2, INDIRECT);
        chainOf2000();
    }

    /** At most 2000 structures of 4 bytes fit side by side: longer ways than that go round in a ring. */
    private static void chainOf2000() {
        Run run = new Run("12 linked, a long chain");
        run.due(1024, "resize", 8192);
        for (int i = 0; i < 1999; i++) {
            run.due(1, "set", 100 + 4 * i, 4, 104 + 4 * i);
        }
        run.due(0, "linked", 1, 1, 100, 0, 0, 0);
        run.due(1, "set", 8096, 1, 1);
        run.due(8096, "linked", 1, 1, 100, 0, 0, 0);
        run.due(1, "set", 8096, 4, 100);
        run.due(Run.ENDLESS, "linked", 1, 1, 100, 0, 0, 0);
    }

    private static void linkedBad() {
        Run run = chain("12 linked, wrong inputs");
        run.due(Run.BAD, "linked", 11, 2, -1, 6, 2, 0);
        run.due(Run.BAD, "linked", 11, 2, 200, -1, 2, 0);
        run.due(Run.BAD, "linked", 11, 2, 200, 6, -1, 0);
        run.due(Run.BAD, "linked", 11, 2, 0, 6, LEAST, 0);
        run.due(Run.BAD, "linked", 11, 3, 200, 6, 2, 0);
        run.due(Run.BAD, "linked", 11, 0, 0, 6, 2, INDIRECT);
        run.due(Run.BAD, "linked", 11, 65, 0, 6, 2, INDIRECT);
        for (int options : new int[] {LEAST, -1, 4, 5, 6, 7, 8, MOST}) {
            run.due(Run.BAD, "linked", 11, 2, 200, 6, 2, options);
        }
    }
}
