@Case("promise 7, make")
public final class Promise07MakeTest {
    public static void main(String[] arguments) {
        Cases.run(Promise07MakeTest.class);
    }

    /** Blocks of 10, 20, 30, 40 bytes at 1024, 1034, 1054, 1084; the last gap has 156 bytes from 1124 on. */
    private static Run four() {
        Run run = new Run();
        run.due(1024, "make", 10);
        run.due(1034, "make", 20);
        run.due(1054, "make", 30);
        run.due(1084, "make", 40);
        return run;
    }

    @Case("the first BLOCK begins at the end of MEMORY, and SIZE grows by the least multiple of 256: 1, 256, 257 bytes")
    static void firstBlock() {
        int[][] due = {{1, 1280}, {255, 1280}, {256, 1280}, {257, 1536}, {512, 1536}, {513, 1792}};
        for (int[] row : due) {
            Run run = new Run();
            run.due(1024, "make", row[0]);
            run.heapIs(row[1], 1024, 1024, row[0]);
            run.due(row[0] % 256 == 0 ? 0 : 1, "told", 4);
        }
    }

    @Case("START is the SIZE as it was when the first of the BLOCKS was made: the least SIZE, another behind it")
    static void start() {
        Run run = new Run();
        run.due(1024, "resize", 256);
        run.due(256, "make", 300);
        run.heapIs(768, 256, 256, 300);
        run.due(556, "make", 300);
        run.due(256, "told", 1);
        run.due(300, "free", 256);
        run.due(256, "told", 1);
        run.due(300, "free", 556);
        run.due(256, "resize", 2048);
        run.due(2048, "make", 5);
        run.heapIs(2304, 2048, 2048, 5);
    }

    @Case("a GAP of just n bytes is taken whole")
    static void justFits() {
        Run run = four();
        run.due(20, "free", 1034);
        run.due(1034, "make", 20);
        run.heapIs(1280, 1024, 1024, 10, 1034, 20, 1054, 30, 1084, 40);
        run.due(1, "told", 4);
    }

    @Case("a GAP of n - 1 bytes is passed over")
    static void oneTooFew() {
        Run run = four();
        run.due(20, "free", 1034);
        run.due(1124, "make", 21);
        run.heapIs(1280, 1024, 1024, 10, 1054, 30, 1084, 40, 1124, 21);
    }

    @Case("of a greater GAP its first n bytes are the BLOCK, the others stay a GAP")
    static void firstBytesOfTheGap() {
        Run run = four();
        run.due(20, "free", 1034);
        run.due(1034, "make", 19);
        run.due(1, "block", 1, 2);
        run.due(2, "told", 4);
        run.due(1053, "make", 1);
        run.due(0, "block", 1, 2);
        run.due(1, "told", 4);
    }

    @Case("the first GAP by places that has room, not the one that fits best nor the one that was freed last")
    static void firstByPlaces() {
        Run run = four();
        run.due(30, "free", 1054);
        run.due(10, "free", 1024);
        run.due(1124, "make", 156);
        run.due(1054, "make", 15);
        run.due(1024, "make", 5);
        run.due(1029, "make", 5);
        run.due(1069, "make", 15);
        run.due(0, "told", 4);
    }

    @Case("a GAP ahead of all BLOCKS counts too, from START on")
    static void aheadOfAll() {
        Run run = four();
        run.due(10, "free", 1024);
        run.due(20, "free", 1034);
        run.due(1024, "make", 30);
        run.heapIs(1280, 1024, 1024, 30, 1054, 30, 1084, 40);
    }

    @Case("the last GAP: what fills it just leaves SIZE as it is, one byte more makes MEMORY grow from the GAP on")
    static void lastGap() {
        Run run = four();
        run.due(1124, "make", 156);
        run.due(1280, "told", 0);
        run.due(0, "told", 4);
        run = four();
        run.due(1124, "make", 157);
        run.heapIs(1536, 1024, 1024, 10, 1034, 20, 1054, 30, 1084, 40, 1124, 157);
        run.due(255, "block", 4, 2);
    }

    @Case("MEMORY grows by the least multiple: the most bytes with 256 more, and one byte more than that")
    static void leastMultiple() {
        Run run = four();
        run.due(1124, "make", 156 + 256);
        run.due(1536, "told", 0);
        run = four();
        run.due(1124, "make", 157 + 256);
        run.due(1792, "told", 0);
    }

    @Case("without a GAP at the end of MEMORY the BLOCK begins there, whatever other GAPS there are")
    static void noGapAtTheEnd() {
        Run run = four();
        run.due(1124, "make", 156);
        run.due(30, "free", 1054);
        run.due(1280, "make", 31);
        run.heapIs(1536, 1024, 1024, 10, 1034, 20, 1084, 40, 1124, 156, 1280, 31);
        run.due(30, "block", 1, 2);
    }

    @Case("a GAP that goes from BLOCKS that were freed to the end of MEMORY is one GAP")
    static void longLastGap() {
        Run run = four();
        run.due(40, "free", 1084);
        run.due(30, "free", 1054);
        run.due(1054, "make", 1280 - 1054 + 1);
        run.heapIs(1536, 1024, 1024, 10, 1034, 20, 1054, 227);
    }

    @Case("new bytes are 0; those of a GAP stay as they are when they come to be USED")
    static void bytes() {
        Run run = four();
        run.due(1, "set", 1276, 4, 0x01020304);
        run.due(1, "set", 1040, 1, 9);
        run.due(20, "free", 1034);
        run.due(1034, "make", 15);
        run.bytesAre(1040, 9);
        run.due(1124, "make", 200);
        run.bytesAre(1276, 1, 2, 3, 4, 0, 0);
        run.due(0, "get", 1532, 4);
    }

    @Case("bytes that went with THE HEAP are 0 when MEMORY grows again")
    static void bytesOfAnotherHeap() {
        Run run = new Run();
        run.due(1024, "make", 10);
        run.due(1, "set", 1024, 4, -1);
        run.due(1, "set", 1279, 1, 255);
        run.due(10, "free", 1024);
        run.due(1024, "make", 10);
        run.due(0, "get", 1024, 4);
        run.bytesAre(1279, 0);
    }

    @Case("SIZE would be above 8192: the last n for which it is not, the first for which it is: 0, and nothing changes")
    static void aboveTheGreatestSize() {
        Run run = new Run();
        run.idle(0, "make", 7169);
        run.idle(0, "make", 8192);
        run.idle(0, "make", Run.MOST);
        run.heapIs(1024, 0);
        run.due(1024, "make", 7168);
        run.heapIs(8192, 1024, 1024, 7168);
        run.idle(0, "make", 1);
    }

    @Case("SIZE would be above 8192, with a GAP at the end of MEMORY: 0, and nothing changes")
    static void aboveWithAGap() {
        Run run = four();
        int most = 8192 - 1124;
        run.idle(0, "make", most + 1);
        run.idle(0, "make", Run.MOST);
        run.idle(0, "make", Run.MOST - 1000);
        run.due(1124, "make", most);
        run.due(8192, "told", 0);
        run.idle(0, "make", 1);
        run.due(20, "free", 1034);
        run.idle(0, "make", 21);
        run.due(1034, "make", 20);
    }

    @Case("with SIZE 8192 and without THE HEAP there is room for none: 0, and nothing changes")
    static void noRoomAtAll() {
        Run run = new Run();
        run.due(1024, "resize", 8192);
        run.idle(0, "make", 1);
        run.heapIs(8192, 0);
        run.due(8192, "resize", 7936);
        run.idle(0, "make", 257);
        run.due(7936, "make", 256);
        run.heapIs(8192, 7936, 7936, 256);
    }

    @Case("64 BLOCKS at most: the 64th is made, for the 65th 0, and nothing changes, though GAPS have room")
    static void sixtyFour() {
        Run run = new Run();
        run.makeRow(1024, 3, 63);
        run.due(3, "free", 1024);
        run.due(1024, "make", 1);
        run.due(1213, "make", 3);
        run.due(64, "told", 2);
        run.idle(0, "make", 1);
        run.idle(0, "make", 2);
        run.idle(0, "make", 5000);
        run.idle(0, "make", Run.MOST);
        run.due(3, "free", 1213);
        run.due(1025, "make", 2);
        run.due(64, "told", 2);
        run.idle(0, "make", 1);
    }

    @Case("BAD: n is below 1")
    static void bad() {
        Run run = new Run();
        for (int n : new int[] {0, -1, -256, Run.LEAST}) {
            run.refused(Run.BAD, "make", n);
        }
        run.makeRow(1024, 1, 64);
        run.refused(Run.BAD, "make", 0);
        run.refused(Run.BAD, "make", -1);
    }

    @Case("places repeat: the same BLOCKS made again are at the same places")
    static void placesRepeat() {
        Run run = new Run();
        for (int i = 0; i < 20; i++) {
            run.due(1024, "make", 100);
            run.due(1124, "make", 200);
            run.due(100, "free", 1024);
            run.due(1024, "make", 50);
            run.due(200, "free", 1124);
            run.due(50, "free", 1024);
            run.due(1024, "told", 0);
        }
    }
}
