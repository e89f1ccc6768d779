@Case("promise 2, get")
public final class Promise02GetTest {
    public static void main(String[] arguments) {
        Cases.run(Promise02GetTest.class);
    }

    @Case("numbers of 1, 2 and 4 bytes stand with the highest byte first")
    static void highestFirst() {
        Run run = new Run();
        run.due(7, "get", 1, 1);
        run.due(0x070E, "get", 1, 2);
        run.due(0x070E151CL, "get", 1, 4);
        run.idle(0x070E151CL, "get", 1, 4);
    }

    @Case("a number has no sign: the greatest of 1, 2 and 4 bytes, and the least whose highest bit is set")
    static void withoutSign() {
        Run run = new Run();
        run.due(1, "set", 100, 4, -1);
        run.due(255, "get", 100, 1);
        run.due(65535, "get", 100, 2);
        run.due(4294967295L, "get", 100, 4);
        run.due(1, "set", 200, 4, Run.LEAST);
        run.due(128, "get", 200, 1);
        run.due(32768, "get", 200, 2);
        run.due(2147483648L, "get", 200, 4);
        run.due(1, "set", 200, 4, Run.BAD);
        run.due(4294967285L, "get", 200, 4);
    }

    @Case("BAD: a width that is not 1, 2 or 4")
    static void otherWidths() {
        Run run = new Run();
        for (int width : new int[] {0, 3, 5, 8, -1, -2, -4, Run.MOST, Run.LEAST}) {
            run.refused(Run.BAD, "get", 100, width);
        }
    }

    @Case("BAD: a place below 0; 0 is the first")
    static void belowZero() {
        Run run = new Run();
        run.due(0x00070E15, "get", 0, 4);
        run.refused(Run.BAD, "get", -1, 1);
        run.refused(Run.BAD, "get", -1, 4);
        run.refused(Run.BAD, "get", Run.LEAST, 4);
    }

    @Case("OUTSIDE: the last place that MEMORY has for each width, and the next")
    static void lastPlaces() {
        for (int size : new int[] {256, 1024, 8192}) {
            Run run = new Run();
            run.due(1024, "resize", size);
            run.due(1, "set", size - 4, 4, 0x01020304);
            for (int width : new int[] {1, 2, 4}) {
                run.due(new int[] {0, 4, 0x0304, 0, 0x01020304}[width], "get", size - width, width);
                run.due(Run.OUTSIDE, "get", size - width + 1, width);
                run.due(Run.OUTSIDE, "get", size, width);
            }
            run.refused(Run.OUTSIDE, "get", size - 1, 2);
        }
    }

    @Case("OUTSIDE: a place so great that its end wraps around")
    static void wraps() {
        Run run = new Run();
        run.refused(Run.OUTSIDE, "get", Run.MOST, 1);
        run.refused(Run.OUTSIDE, "get", Run.MOST, 4);
        run.refused(Run.OUTSIDE, "get", Run.MOST - 3, 4);
    }

    @Case("bytes that a smaller SIZE or the end of THE HEAP took away are OUTSIDE")
    static void bytesThatWent() {
        Run run = new Run();
        run.due(1024, "resize", 512);
        run.due(0, "get", 508, 4);
        run.due(Run.OUTSIDE, "get", 512, 1);
        run.due(512, "make", 1);
        run.due(0, "get", 764, 4);
        run.due(1, "free", 512);
        run.due(Run.OUTSIDE, "get", 512, 1);
    }

    @Case("a number may lie over the end of ROM, of a BLOCK and of a GAP")
    static void overEnds() {
        Run run = new Run();
        run.due(1, "set", 64, 1, 1);
        run.due(0xB901, "get", 63, 2);
        run.due(1024, "make", 3);
        run.due(1, "set", 1022, 4, 0x0A0B0C0D);
        run.due(1, "set", 1026, 2, 0x0E0F);
        run.due(0x0B0C0D0EL, "get", 1023, 4);
        run.due(0x0E0F, "get", 1026, 2);
    }

    @Case("BAD comes ahead of OUTSIDE")
    static void order() {
        Run run = new Run();
        run.due(Run.BAD, "get", 1024, 3);
        run.due(Run.BAD, "get", Run.MOST, 0);
        run.due(Run.BAD, "get", -1, 3);
    }
}
