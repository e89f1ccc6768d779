/** Promises 18 to 23. */
public final class CodeTest {
    private static final int MOST = Integer.MAX_VALUE, LEAST = Integer.MIN_VALUE;

    public static void main(String[] arguments) {
        writing();
        rowsOfZeros();
        longest();
        poking();
        cutting();
        reading();
        protectedBytes();
        endsTooEarly();
        wrongAtTheEnd();
        wrongHead();
        wrongBlocks();
        wrongBytes();
        telling();
        Run.end();
    }

    private static void writing() {
        Run run = new Run("18 write, 19 code");
        run.due(6, "write");
        run.codeIs(0, 4, 0, 0, 0, 0, 0);
        run.due(Run.NONE, "code", -1);
        run.due(Run.NONE, "code", MOST);
        run.due(Run.NONE, "code", LEAST);
        run.due(1024, "make", 300);
        run.due(1324, "make", 7);
        run.due(1, "set", 64, 2, 0x05FF);
        run.due(1, "set", 70, 1, 1);
        run.due(6, "told", 6);
        run.due(21, "write");
        run.codeIs(0, 6, 0, 4, 0, 0, 2, 4, 0, 1, 44, 5, 44, 0, 7, 0, 63, 5, 255, 0, 3, 1);
        run.due(300, "free", 1024);
        run.due(17, "write");
        run.codeIs(0, 6, 0, 4, 0, 0, 1, 5, 44, 0, 7, 0, 63, 5, 255, 0, 3, 1);
        run.due(1, "restart");
        run.due(1024, "resize", 8192);
        run.due(6, "write");
        run.codeIs(0, 32, 0, 0, 0, 0, 0);
    }

    private static void rowsOfZeros() {
        Run run = new Run("18 write, rows of 0s");
        run.due(1, "set", 255, 1, 9);
        run.due(9, "write");
        run.codeIs(6, 0, 254, 9);
        run.due(1, "set", 255, 2, 9);
        run.due(9, "write");
        run.codeIs(6, 0, 255, 9);
        run.due(1, "set", 256, 2, 9);
        run.due(11, "write");
        run.codeIs(6, 0, 255, 0, 0, 9);
        run.due(1, "set", 257, 1, 0);
        run.due(1, "set", 1023, 1, 8);
        run.due(15, "write");
        run.codeIs(6, 0, 255, 0, 255, 0, 255, 0, 254, 8);
    }

    /** Every other byte is 0: no code is longer. */
    private static void longest() {
        Run run = new Run("18 write, the longest code");
        for (int i = 0; i < 64; i++) {
            run.due(1024 + i, "make", 1);
        }
        run.due(1, "free", 1024);
        run.due(1024, "make", 1);
        run.due(1, "free", 1087);
        run.due(1087, "make", 7105);
        run.heapIs(8192, 1024, blocksOf64());
        run.due(1, "set", 64, 4, 0x01000100);
        for (int n = 4; 64 + 2 * n <= 8192; n *= 2) {
            run.due(1, "copy", 64, 64 + n, n);
        }
        run.due(1, "copy", 64, 4160, 4032);
        run.due(1, "set", 8191, 1, 1);
        // A row over ROM, a byte, 4063 times a row of one 0 and a byte, and the last byte, that was 0.
        run.due(6 + 4 * 64 + 2 + 1 + 4063 * 3 + 1, "write");
        run.due(1, "keep");
        run.due(1, "restart");
        run.due(0, "same");
        run.due(8192, "read");
        run.due(1, "same");
    }

    private static int[] blocksOf64() {
        int[] blocks = new int[128];
        for (int i = 0; i < 64; i++) {
            blocks[2 * i] = 1024 + i;
            blocks[2 * i + 1] = i == 63 ? 7105 : 1;
        }
        return blocks;
    }

    private static void poking() {
        Run run = new Run("20 poke");
        run.due(Run.BAD, "poke", 0, 0);
        run.due(6, "write");
        run.due(4, "poke", 0, 255);
        run.due(255, "poke", 0, 0);
        run.due(0, "poke", 0, 8);
        run.due(0, "poke", 5, 200);
        run.codeIs(0, 8, 0, 0, 0, 0, 200);
        run.due(Run.BAD, "poke", 6, 0);
        run.due(Run.BAD, "poke", -1, 0);
        run.due(Run.BAD, "poke", MOST, 0);
        run.due(Run.BAD, "poke", 0, -1);
        run.due(Run.BAD, "poke", 0, 256);
        run.due(Run.BAD, "poke", 0, LEAST);
        run.codeIs(0, 8, 0, 0, 0, 0, 200);
        run.due(2, "cut", 4);
        run.due(Run.BAD, "poke", 4, 0);
        run.due(0, "poke", 3, 1);
    }

    private static void cutting() {
        Run run = new Run("21 cut");
        run.due(0, "cut", 0);
        run.due(Run.BAD, "cut", 1);
        run.due(6, "write");
        run.due(0, "cut", 6);
        run.due(Run.BAD, "cut", 7);
        run.due(Run.BAD, "cut", MOST);
        run.due(Run.BAD, "cut", -1);
        run.due(Run.BAD, "cut", LEAST);
        run.due(6, "told", 6);
        run.due(2, "cut", 4);
        run.codeIs(0, 4, 0, 0, 0);
        run.due(4, "cut", 0);
        run.due(Run.NONE, "code", 0);
        run.due(6, "write");
    }

    private static void reading() {
        Run run = new Run("22 read");
        run.due(1024, "make", 300);
        run.due(1324, "make", 7);
        run.due(300, "free", 1024);
        run.due(1, "set", 100, 4, 0x01000200);
        run.due(1, "set", 1535, 1, 255);
        run.due(1, "keep");
        run.due(10 + 2 + 4 + 12 + 1, "write");
        run.due(7, "free", 1324);
        run.due(1024, "resize", 8192);
        run.due(1, "set", 8000, 1, 1);
        run.due(1, "set", 100, 4, -1);
        run.due(1536, "read");
        run.due(1, "same");
        run.heapIs(1536, 1024, 1324, 7);
        run.due(0x01000200, "get", 100, 4);
        run.due(255, "get", 1535, 1);
        run.due(1024, "make", 1);
        run.due(1536, "read");
        run.due(1, "same");
        // Bytes from the code's size on are gone, not hidden.
        run.due(7, "free", 1324);
        run.due(1024, "resize", 8192);
        run.due(0, "get", 8000, 1);
    }

    private static void protectedBytes() {
        Run run = new Run("22 read, protected bytes");
        run.due(1, "set", 1020, 4, 0x01020304);
        run.due(1, "set", 64, 2, 0x0102);
        int length = 6 + 2 + 2 + 2 * 4 + 4;
        run.due(length, "write");
        run.due(1, "protect", 1022, 100);
        run.due(1, "set", 1020, 4, 0x0A0B0C0D);
        run.due(1024, "read");
        run.due(0x01020C0DL, "get", 1020, 4);
        run.due(1024, "resize", 8192);
        run.due(1, "set", 1022, 4, 0x0E0F0E0F);
        run.due(1024, "read");
        run.due(0x01020E0FL, "get", 1020, 4);
        run.due(1024, "resize", 256);
        run.due(1, "protect", 0, 65);
        run.due(1, "set", 64, 2, 0x0909);
        run.due(1024, "read");
        run.due(0x0902, "get", 64, 2);
        run.due(0x01020304L, "get", 1020, 4);
        run.due(length, "told", 6);
    }

    /** A code with two blocks and bytes: 6 of head, 8 of blocks, 0 63 5 0 2 6. */
    private static Run coded(String title) {
        Run run = new Run(title);
        run.due(1024, "make", 100);
        run.due(1124, "make", 50);
        run.due(1, "set", 64, 1, 5);
        run.due(1, "set", 68, 1, 6);
        run.due(20, "write");
        run.codeIs(0, 5, 0, 4, 0, 0, 2, 4, 0, 0, 100, 4, 100, 0, 50, 0, 63, 5, 0, 2, 6);
        run.due(1, "keep");
        return run;
    }

    private static void endsTooEarly() {
        Run run = new Run("22 read, no code");
        run.due(-100, "read");
        for (int n = 0; n < 20; n++) {
            run = coded("22 read, cut to " + n);
            run.due(20 - n, "cut", n);
            boolean whole = n == 14 || n == 17;
            // A row ends the code at 16 and 19; in all other places it just ends too early.
            int wrong = n == 16 ? 14 : n == 19 ? 17 : n;
            run.due(whole ? 1280 : -100 - wrong, "read");
            run.due(whole ? 0 : 1, "same");
            run.due(n, "told", 6);
        }
    }

    /** A number that is whole and wrong is wrong itself; one that is not whole ends too early. */
    private static void wrongAtTheEnd() {
        for (int at = 0; at <= 12; at += 2) {
            for (int length = at + 1; length <= at + 2; length++) {
                Run run = coded("22 read, wrong at " + at + ", cut to " + length);
                // 255 * 256 is no START; 0 is no SIZE, no heap has 0 blocks, none lies at 0 or has 0 bytes.
                int high = at == 2 ? 255 : 0;
                run.due(new int[] {5, 4, 0, 4, 0, 4, 0}[at / 2], "poke", at, high);
                run.due(new int[] {0, 0, 2, 0, 100, 100, 50}[at / 2], "poke", at + 1, 0);
                run.due(20 - length, "cut", length);
                run.due(-100 - (length == at + 2 ? at : length), "read");
                run.due(1, "same");
            }
        }
    }

    /** Writes other bytes from a place of the code on; reading answers as is due, and changes nothing if it is wrong. */
    private static void poked(int due, int at, int... bytes) {
        Run run = coded("22 read, other bytes at " + at);
        int[] before = {5, 0, 4, 0, 0, 2, 4, 0, 0, 100, 4, 100, 0, 50, 0, 63, 5, 0, 2, 6};
        for (int i = 0; i < bytes.length; i++) {
            run.due(before[at + i], "poke", at + i, bytes[i]);
        }
        run.due(due, "read");
        if (due < 0) {
            run.due(1, "same");
        }
    }

    private static void wrongHead() {
        poked(-100, 0, 0, 0);
        poked(-100, 0, 0, 255);
        poked(-100, 0, 5, 1);
        poked(-100, 0, 33, 0);
        poked(-100, 0, 255, 255, 255, 255, 255, 255);
        poked(8192, 0, 32, 0);
        poked(1280, 0, 5, 0);
        poked(-102, 2, 4, 1);
        poked(-102, 2, 0, 255);
        poked(-102, 2, 5, 0);
        poked(-102, 2, 6, 0);
        poked(1280, 2, 1, 0);
        poked(-104, 2, 0, 0);
        poked(-104, 4, 0, 0);
        poked(-104, 4, 0, 65);
        poked(-104, 4, 1, 2);
        poked(-104, 2, 0, 0, 0, 65);
        Run run = new Run("22 read, a head without blocks");
        run.due(6, "write");
        run.due(0, "poke", 5, 1);
        run.due(-104, "read");
        run.due(1, "poke", 5, 0);
        run.due(0, "poke", 2, 1);
        run.due(-104, "read");
        run.due(1, "poke", 2, 0);
        run.due(4, "poke", 0, 1);
        run.due(256, "read");
        run.heapIs(256, 0);
    }

    private static void wrongBlocks() {
        poked(-106, 6, 3, 255);
        poked(1280, 6, 4, 0, 0, 1);
        poked(-108, 6, 4, 0, 0, 0);
        poked(-110, 6, 4, 1, 0, 100);
        poked(-108, 6, 4, 0, 1, 1);
        poked(-110, 6, 4, 0, 1, 0);
        poked(-108, 6, 255, 255, 255, 255);
        poked(-110, 10, 4, 99);
        poked(-110, 10, 3, 0);
        poked(1280, 10, 4, 101);
        poked(1280, 10, 4, 255, 0, 1);
        poked(-112, 10, 4, 255, 0, 2);
        poked(-112, 10, 5, 0, 0, 1);
        poked(-112, 12, 0, 0);
        poked(1280, 12, 0, 156);
        poked(-112, 12, 0, 157);
        // With one block more, its place is taken from the bytes: 0 63, which lies below the block before.
        poked(-114, 4, 0, 3);
        Run run = coded("22 read, blocks with a gap ahead");
        run.due(100, "poke", 11, 110);
        run.due(4, "poke", 2, 3);
        run.due(1280, "read");
        run.heapIs(1280, 768, 1024, 100, 1134, 50);
        run.due(3, "told", 4);
        run.due(768, "make", 256);
    }

    private static void wrongBytes() {
        poked(-114, 14, 1);
        poked(-116, 14, 0, 62);
        poked(1280, 14, 0, 64);
        poked(1280, 16, 5, 5, 5, 5);
        poked(-118, 16, 0, 2, 0, 6);
        poked(-120, 17, 2, 2, 0);
        poked(-118, 16, 0, 255, 0, 255);
        fullMemory();
    }

    private static void fullMemory() {
        Run run = new Run("22 read, bytes behind memory");
        run.due(1024, "resize", 256);
        run.due(1, "set", 250, 1, 1);
        run.due(1, "set", 253, 1, 2);
        run.due(12, "write");
        run.codeIs(6, 0, 249, 1, 0, 1, 2);
        run.due(1, "keep");
        // The row up to the last byte, and one byte behind it.
        run.due(249, "poke", 7, 255);
        run.due(-108, "read");
        run.due(255, "poke", 7, 254);
        run.due(-109, "read");
        run.due(254, "poke", 7, 253);
        run.due(-109, "read");
        run.due(253, "poke", 7, 252);
        run.due(-111, "read");
        run.due(1, "same");
        run.due(252, "poke", 7, 251);
        run.due(256, "read");
        run.due(1, "get", 252, 1);
        run.due(2, "get", 255, 1);
        // A 0 behind the last byte can not be, whether or not it is told how long its row is.
        run.due(251, "poke", 7, 254);
        run.due(2, "cut", 10);
        run.due(-109, "read");
    }

    private static void telling() {
        Run run = new Run("23 told");
        run.due(1024, "make", 100);
        run.due(1124, "make", 50);
        run.due(1174, "make", 10);
        run.due(50, "free", 1124);
        run.due(1, "keep");
        run.due(2, "keep");
        run.due(1, "protect", 300, 20);
        run.due(14, "write");
        int[] due = {1280, 1024, 2, 110, 2, 2, 14, 300, 20};
        for (int what = 0; what < due.length; what++) {
            run.due(due[what], "told", what);
        }
        run.due(Run.BAD, "told", -1);
        run.due(Run.BAD, "told", 9);
        run.due(Run.BAD, "told", MOST);
        run.due(Run.BAD, "told", LEAST);
        run.due(100, "free", 1024);
        run.due(2, "told", 4);
        run.due(10, "free", 1174);
        int[] later = {1024, 0, 0, 0, 0, 2, 14, 300, 20};
        for (int what = 0; what < later.length; what++) {
            run.due(later[what], "told", what);
        }
    }
}
