@Case("promise 9, block")
public final class Promise09BlockTest {
    public static void main(String[] arguments) {
        Cases.run(Promise09BlockTest.class);
    }

    /** Blocks of 10, 20, 30 bytes at 1024, 1034, 1054; the last gap has 196 bytes. */
    private static Run three() {
        Run run = new Run();
        run.due(1024, "make", 10);
        run.due(1034, "make", 20);
        run.due(1054, "make", 30);
        return run;
    }

    @Case("BLOCKS are counted by places, not in the order in which they were made")
    static void byPlaces() {
        Run run = three();
        run.due(10, "free", 1024);
        run.due(1024, "make", 4);
        run.due(1028, "make", 5);
        run.heapIs(1280, 1024, 1024, 4, 1028, 5, 1034, 20, 1054, 30);
    }

    @Case("what 0, 1, 2; nothing changes")
    static void what() {
        Run run = three();
        run.idle(1034, "block", 1, 0);
        run.idle(20, "block", 1, 1);
        run.idle(0, "block", 1, 2);
    }

    @Case("BAD: what is below 0 or above 2")
    static void badWhat() {
        Run run = three();
        for (int what : new int[] {-1, 3, 4, Run.MOST, Run.LEAST}) {
            run.refused(Run.BAD, "block", 0, what);
        }
    }

    @Case("BAD: i is below 0, or there are not so many; the last one is there")
    static void badNumber() {
        Run run = three();
        run.due(1054, "block", 2, 0);
        for (int i : new int[] {-1, 3, 64, Run.MOST, Run.LEAST}) {
            for (int what = 0; what <= 2; what++) {
                run.refused(Run.BAD, "block", i, what);
            }
        }
        run.due(30, "free", 1054);
        run.due(1034, "block", 1, 0);
        run.refused(Run.BAD, "block", 2, 0);
    }

    @Case("BAD: without THE HEAP there is none")
    static void badWithoutTheHeap() {
        Run run = new Run();
        run.refused(Run.BAD, "block", 0, 0);
        run.due(1024, "make", 1);
        run.due(1, "free", 1024);
        run.refused(Run.BAD, "block", 0, 0);
        run.refused(Run.BAD, "block", 0, 1);
        run.refused(Run.BAD, "block", 0, 2);
    }

    @Case("BAD: both numbers are wrong")
    static void badBoth() {
        Run run = three();
        run.refused(Run.BAD, "block", 3, 3);
        run.refused(Run.BAD, "block", -1, -1);
    }

    @Case("the GAP right behind it: none (0), up to the next BLOCK, up to the end of MEMORY")
    static void gapBehind() {
        Run run = three();
        run.due(0, "block", 0, 2);
        run.due(196, "block", 2, 2);
        run.due(20, "free", 1034);
        run.due(20, "block", 0, 2);
        run.due(196, "block", 1, 2);
        run.due(1034, "make", 19);
        run.due(1, "block", 1, 2);
        run.due(1084, "make", 196);
        run.due(0, "block", 3, 2);
    }

    @Case("a GAP ahead of the first BLOCK is behind none")
    static void gapAhead() {
        Run run = three();
        run.due(10, "free", 1024);
        run.due(1034, "block", 0, 0);
        run.due(0, "block", 0, 2);
        run.due(196, "block", 1, 2);
        run.due(2, "told", 4);
    }

    @Case("the 64th BLOCK is number 63; there is no number 64")
    static void lastOfSixtyFour() {
        Run run = new Run();
        run.makeRow(1024, 4, 64);
        run.due(1276, "block", 63, 0);
        run.due(4, "block", 63, 1);
        run.due(0, "block", 63, 2);
        run.refused(Run.BAD, "block", 64, 0);
    }
}
