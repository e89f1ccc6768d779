@Case("promise 3, set")
public final class Promise03SetTest {
    public static void main(String[] arguments) {
        Cases.run(Promise03SetTest.class);
    }

    @Case("the lowest width bytes of v come to the place, and no byte beside them")
    static void lowestBytes() {
        int[][] due = {{}, {0x78}, {0x56, 0x78}, {}, {0x12, 0x34, 0x56, 0x78}};
        for (int width : new int[] {1, 2, 4}) {
            Run run = new Run();
            run.due(1, "set", 100, 4, -1);
            run.due(1, "set", 104, 4, -1);
            run.due(1, "set", 102, width, 0x12345678);
            run.bytesAre(100, 255, 255);
            run.bytesAre(102, due[width]);
            run.bytesAre(102 + width, 255, 255);
        }
    }

    @Case("v may be any number: below 0, the greatest, the least")
    static void anyNumber() {
        Run run = new Run();
        run.due(1, "set", 100, 4, -1);
        run.due(4294967295L, "get", 100, 4);
        run.due(1, "set", 100, 2, -2);
        run.due(0xFFFE, "get", 100, 2);
        run.due(1, "set", 100, 1, 256);
        run.due(0, "get", 100, 1);
        run.due(1, "set", 100, 4, Run.MOST);
        run.due(Run.MOST, "get", 100, 4);
        run.due(1, "set", 100, 4, Run.LEAST);
        run.due(2147483648L, "get", 100, 4);
    }

    @Case("READONLY: the last place of ROM, for each width; 64 is the first that is none")
    static void rom() {
        Run run = new Run();
        for (int width : new int[] {1, 2, 4}) {
            run.refused(Run.READONLY, "set", 63, width, 1);
            run.refused(Run.READONLY, "set", 0, width, 1);
            run.due(1, "set", 64, width, 1);
        }
        run.refused(Run.READONLY, "set", 60, 4, 1);
        run.refused(Run.READONLY, "set", 61, 4, 1);
        run.refused(Run.READONLY, "set", 62, 2, 1);
    }

    @Case("READONLY: also if the byte of ROM would stay as it is")
    static void romAsItIs() {
        Run run = new Run();
        run.refused(Run.READONLY, "set", 1, 1, 7);
    }

    @Case("OUTSIDE: the last place that MEMORY has for each width, and the next")
    static void lastPlaces() {
        for (int size : new int[] {256, 1024, 8192}) {
            for (int width : new int[] {1, 2, 4}) {
                Run run = new Run();
                run.due(1024, "resize", size);
                run.due(1, "set", size - width, width, 5);
                run.due(5, "get", size - width, width);
                run.refused(Run.OUTSIDE, "set", size - width + 1, width, 6);
                run.due(Run.OUTSIDE, "set", size, width, 6);
            }
        }
    }

    @Case("OUTSIDE: a place so great that its end wraps around")
    static void wraps() {
        Run run = new Run();
        run.refused(Run.OUTSIDE, "set", Run.MOST, 4, 1);
        run.refused(Run.OUTSIDE, "set", Run.MOST, 1, 1);
    }

    @Case("BAD: a width that is not 1, 2 or 4, a place below 0")
    static void bad() {
        Run run = new Run();
        for (int width : new int[] {0, 3, 5, 8, -1, -4, Run.MOST, Run.LEAST}) {
            run.refused(Run.BAD, "set", 100, width, 9);
        }
        run.refused(Run.BAD, "set", -1, 1, 9);
        run.refused(Run.BAD, "set", -1, 4, 9);
        run.refused(Run.BAD, "set", Run.LEAST, 4, 9);
    }

    @Case("BAD comes ahead of OUTSIDE and of READONLY")
    static void order() {
        Run run = new Run();
        run.refused(Run.BAD, "set", 1024, 3, 9);
        run.refused(Run.BAD, "set", 63, 3, 9);
        run.refused(Run.BAD, "set", 0, 0, 9);
    }

    @Case("bytes of THE HEAP, of BLOCKS and of GAPS, are written like all others")
    static void heap() {
        Run run = new Run();
        run.due(1024, "make", 2);
        run.due(1, "set", 1024, 4, -1);
        run.due(1, "set", 1279, 1, 5);
        run.bytesAre(1024, 255, 255, 255, 255, 0);
        run.bytesAre(1279, 5);
        run.heapIs(1280, 1024, 1024, 2);
    }
}
