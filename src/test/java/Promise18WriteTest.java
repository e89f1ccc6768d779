@Case("promise 18, write")
public final class Promise18WriteTest {
    public static void main(String[] arguments) {
        Cases.run(Promise18WriteTest.class);
    }

    @Case("the least: SIZE, START 0, none USED, no byte that is not as at first")
    static void least() {
        Run run = new Run();
        run.due(6, "write");
        run.codeIs(0, 4, 0, 0, 0, 0, 0);
    }

    @Case("SIZE in 2 bytes: 256 and 8192")
    static void sizes() {
        Run run = new Run();
        run.due(1024, "resize", 256);
        run.due(6, "write");
        run.codeIs(0, 1, 0, 0, 0, 0, 0);
        run.due(256, "resize", 8192);
        run.due(6, "write");
        run.codeIs(0, 32, 0, 0, 0, 0, 0);
    }

    @Case("START, how many are USED, of each by places its place and its length; GAPS are not told")
    static void heap() {
        Run run = new Run();
        run.due(1024, "make", 300);
        run.due(1324, "make", 7);
        run.due(14, "write");
        run.codeIs(0, 6, 0, 4, 0, 0, 2, 4, 0, 1, 44, 5, 44, 0, 7);
        run.due(300, "free", 1024);
        run.due(10, "write");
        run.codeIs(0, 6, 0, 4, 0, 0, 1, 5, 44, 0, 7);
        run.due(1024, "make", 1);
        run.due(14, "write");
        run.codeIs(0, 6, 0, 4, 0, 0, 2, 4, 0, 0, 1, 5, 44, 0, 7);
        run.due(1, "free", 1024);
        run.due(7, "free", 1324);
        run.due(6, "write");
        run.codeIs(0, 4, 0, 0, 0, 0, 0);
    }

    @Case("64 BLOCKS")
    static void sixtyFour() {
        Run run = new Run();
        run.makeRow(1024, 2, 64);
        run.due(6 + 4 * 64, "write");
        run.due(0, "code", 4);
        run.due(64, "code", 5);
        for (int i = 0; i < 64; i++) {
            run.due(4 + (2 * i) / 256, "code", 6 + 4 * i);
            run.due(2 * i % 256, "code", 7 + 4 * i);
            run.due(0, "code", 8 + 4 * i);
            run.due(2, "code", 9 + 4 * i);
        }
        run.due(Run.NONE, "code", 262);
    }

    @Case("bytes that are not 0 stand themselves, up to the last of them; 0s behind it are not told")
    static void bytes() {
        Run run = new Run();
        run.due(1, "set", 64, 4, 0x0180FF00);
        run.due(11, "write");
        run.codeIs(6, 0, 63, 1, 128, 255);
        run.due(1, "set", 67, 1, 2);
        run.due(12, "write");
        run.codeIs(6, 0, 63, 1, 128, 255, 2);
    }

    @Case("a row of one 0 between two bytes")
    static void rowOfOne() {
        Run run = new Run();
        run.due(1, "set", 64, 4, 0x01000200);
        run.due(12, "write");
        run.codeIs(6, 0, 63, 1, 0, 0, 2);
    }

    @Case("a row of 0s has 256 at most each time: rows of 255, 256, 257, 512, 513")
    static void rowsOfZeros() {
        int[][] due = {{255, 0, 254, 9}, {256, 0, 255, 9}, {257, 0, 255, 0, 0, 9}, {512, 0, 255, 0, 255, 9},
            {513, 0, 255, 0, 255, 0, 0, 9}};
        for (int[] row : due) {
            Run run = new Run();
            run.due(1, "set", row[0], 1, 9);
            run.due(6 + row.length - 1, "write");
            run.codeIs(6, java.util.Arrays.copyOfRange(row, 1, row.length));
        }
    }

    @Case("the last byte of MEMORY, with the least, the first and the greatest SIZE")
    static void lastByte() {
        for (int size : new int[] {256, 1024, 8192}) {
            Run run = new Run();
            run.due(1024, "resize", size);
            run.due(1, "set", size - 1, 1, 8);
            int length = 6 + 2 * (size / 256) + 1;
            run.due(length, "write");
            run.due(254, "code", length - 2);
            run.due(8, "code", length - 1);
            run.due(Run.NONE, "code", length);
        }
    }

    @Case("bytes of THE HEAP, of BLOCKS and of GAPS, are told too")
    static void heapBytes() {
        Run run = new Run();
        run.due(1024, "make", 2);
        run.due(1, "set", 1024, 1, 5);
        run.due(1, "set", 1279, 1, 6);
        run.due(10 + 8 + 1 + 2 + 1, "write");
        run.codeIs(10, 0, 255, 0, 255, 0, 255, 0, 255, 5, 0, 253, 6);
    }

    @Case("the longest: 64 BLOCKS, SIZE 8192, every other byte a 0")
    static void longest() {
        Run run = new Run();
        run.makeRow(1024, 1, 63);
        run.due(1087, "make", 7105);
        run.due(8192, "told", 0);
        run.due(1, "set", 64, 4, 0x01000100);
        for (int n = 4; n < 4096; n *= 2) {
            run.due(1, "copy", 64, 64 + n, n);
        }
        run.due(1, "copy", 64, 4160, 4032);
        run.due(1, "set", 8191, 1, 1);
        // A row over ROM and a byte, 4063 times a row of one 0 and a byte, and the last byte, that was 0.
        int length = 6 + 4 * 64 + 2 + 1 + 4063 * 3 + 1;
        run.due(length, "write");
        run.due(1, "code", length - 1);
        run.due(1, "code", length - 2);
        run.due(0, "code", length - 3);
        run.due(Run.NONE, "code", length);
        run.due(1, "keep");
        run.due(1, "restart");
        run.due(0, "same");
        run.due(8192, "read");
        run.due(1, "same");
    }

    @Case("CODE is written anew: nothing of a longer one before it stays, nor of what was altered or cut")
    static void anew() {
        Run run = new Run();
        run.due(1, "set", 64, 4, 0x01020304);
        run.due(12, "write");
        run.due(1, "zero", 64, 4);
        run.due(6, "write");
        run.codeIs(0, 4, 0, 0, 0, 0, 0);
        run.due(4, "poke", 0, 9);
        run.due(3, "cut", 3);
        run.due(6, "write");
        run.codeIs(0, 4, 0, 0, 0, 0, 0);
    }

    @Case("CODE stays as it was written, whatever happens to MEMORY; MEMORY stays as it is when CODE is written")
    static void apart() {
        Run run = new Run();
        run.due(1, "set", 64, 1, 5);
        run.due(9, "write");
        run.due(5, "get", 64, 1);
        run.heapIs(1024, 0);
        run.due(1, "set", 64, 1, 6);
        run.due(1024, "make", 5);
        run.codeIs(0, 4, 0, 0, 0, 0, 0, 0, 63, 5);
    }

    @Case("what is KEPT and what is PROTECTED is not told; to write it again changes nothing")
    static void notTold() {
        Run run = new Run();
        run.due(1, "set", 64, 1, 5);
        run.due(1, "keep");
        run.due(1, "protect", 64, 1);
        run.due(9, "write");
        run.codeIs(0, 4, 0, 0, 0, 0, 0, 0, 63, 5);
        run.idle(9, "write");
    }
}
