@Case("promise 8, free")
public final class Promise08FreeTest {
    public static void main(String[] arguments) {
        Cases.run(Promise08FreeTest.class);
    }

    /** Blocks of 10, 20, 30 bytes at 1024, 1034, 1054, and one of 196 that goes to the end of memory. */
    private static Run four() {
        Run run = new Run();
        run.due(1024, "make", 10);
        run.due(1034, "make", 20);
        run.due(1054, "make", 30);
        run.due(1084, "make", 196);
        return run;
    }

    @Case("the answer is the BLOCK's length: the first, the last, one between, of 1 byte, of the most")
    static void lengths() {
        Run run = four();
        run.due(30, "free", 1054);
        run.due(10, "free", 1024);
        run.due(196, "free", 1084);
        run.heapIs(1280, 1024, 1034, 20);
        run.due(20, "free", 1034);
        run.due(1024, "make", 1);
        run.due(1, "free", 1024);
        run.due(1024, "make", 7168);
        run.due(7168, "free", 1024);
    }

    @Case("its bytes stay")
    static void bytesStay() {
        Run run = four();
        run.due(1, "set", 1034, 4, 0x01020304);
        run.due(1, "set", 1050, 4, 0x05060708);
        run.due(20, "free", 1034);
        run.bytesAre(1034, 1, 2, 3, 4);
        run.bytesAre(1050, 5, 6, 7, 8);
    }

    @Case("it was not the only one: SIZE and START stay, however long the GAP at the end gets")
    static void notTheOnlyOne() {
        Run run = new Run();
        run.due(1024, "make", 1);
        run.due(1025, "make", 4000);
        run.due(5120, "told", 0);
        run.due(4000, "free", 1025);
        run.heapIs(5120, 1024, 1024, 1);
        run.due(1025, "make", 2);
        run.due(1, "free", 1024);
        run.heapIs(5120, 1024, 1025, 2);
    }

    @Case("it was the only one: THE HEAP is gone, and SIZE is START")
    static void theOnlyOne() {
        Run run = new Run();
        run.due(1024, "resize", 512);
        run.due(512, "make", 600);
        run.due(1112, "make", 5);
        run.due(1, "set", 511, 1, 7);
        run.due(1, "set", 512, 4, -1);
        run.due(600, "free", 512);
        run.heapIs(1280, 512, 1112, 5);
        run.due(5, "free", 1112);
        run.heapIs(512, 0);
        run.due(0, "told", 3);
        run.due(0, "told", 4);
        run.bytesAre(511, 7);
        run.due(Run.OUTSIDE, "get", 512, 1);
        run.due(512, "resize", 1024);
        run.due(0, "get", 512, 4);
    }

    @Case("GAPS are as long as can be: one ahead, one behind, one on both sides become one GAP")
    static void gapsJoin() {
        Run run = four();
        run.due(0, "told", 4);
        run.due(20, "free", 1034);
        run.due(1, "told", 4);
        run.due(30, "free", 1054);
        run.due(1, "told", 4);
        run.due(50, "block", 0, 2);
        run.due(1034, "make", 50);
        run = four();
        run.due(30, "free", 1054);
        run.due(20, "free", 1034);
        run.due(50, "block", 0, 2);
        run = four();
        run.due(10, "free", 1024);
        run.due(30, "free", 1054);
        run.due(2, "told", 4);
        run.due(20, "free", 1034);
        run.due(1, "told", 4);
        run.due(1024, "make", 60);
    }

    @Case("the GAP at the end of MEMORY is one with that of a BLOCK that ended ahead of it")
    static void gapAtTheEnd() {
        Run run = four();
        run.due(196, "free", 1084);
        run.due(1, "told", 4);
        run.due(196, "block", 2, 2);
        run.due(30, "free", 1054);
        run.due(226, "block", 1, 2);
        run.due(1054, "make", 227);
        run.due(1536, "told", 0);
    }

    @Case("BAD: no BLOCK begins at the place: inside one, at its end, in a GAP, at START, freed already")
    static void bad() {
        Run run = four();
        run.due(10, "free", 1024);
        for (int at : new int[] {1024, 1029, 1033, 1035, 1053, 1055, 1279, 1280, 1023, 64, 0, -1, Run.MOST, Run.LEAST}) {
            run.refused(Run.BAD, "free", at);
        }
        run.due(20, "free", 1034);
        run.refused(Run.BAD, "free", 1034);
    }

    @Case("BAD: without THE HEAP, also at the places that BLOCKS had in it")
    static void badWithoutTheHeap() {
        Run run = new Run();
        run.refused(Run.BAD, "free", 0);
        run.refused(Run.BAD, "free", 1024);
        run.due(1024, "make", 5);
        run.due(1029, "make", 5);
        run.due(5, "free", 1029);
        run.due(5, "free", 1024);
        run.refused(Run.BAD, "free", 1024);
        run.refused(Run.BAD, "free", 1029);
        run.refused(Run.BAD, "free", 0);
        run.refused(Run.BAD, "free", -1);
    }

    @Case("of 64 BLOCKS the first, the last and one between")
    static void ofSixtyFour() {
        for (int gone : new int[] {0, 31, 63}) {
            Run run = new Run();
            run.makeRow(1024, 2, 64);
            run.due(2, "free", 1024 + 2 * gone);
            run.due(63, "told", 2);
            for (int i = 0; i < 63; i++) {
                run.due(1024 + 2 * (i < gone ? i : i + 1), "block", i, 0);
            }
            run.due(Run.BAD, "block", 63, 0);
            run.due(1024 + 2 * gone, "make", 2);
            run.due(64, "told", 2);
        }
    }
}
