/** Promises 1 to 6. */
public final class BytesTest {
    private static final int MOST = Integer.MAX_VALUE, LEAST = Integer.MIN_VALUE;

    public static void main(String[] arguments) {
        newObject();
        getting();
        setting();
        zeroing();
        copying();
        resizing();
        Run.end();
    }

    private static void newObject() {
        Run run = new Run("1 a new object");
        run.heapIs(1024, 0);
        for (int what = 1; what <= 8; what++) {
            run.due(0, "told", what);
        }
        for (int i = 0; i < 1024; i++) {
            run.due(i < 64 ? 7 * i % 256 : 0, "get", i, 1);
        }
        run.due(Run.OUTSIDE, "get", 1024, 1);
        run.due(Run.NONE, "code", 0);
        run.due(Run.BAD, "back");
        run.due(Run.BAD, "same");
        run.due(Run.BAD, "block", 0, 0);
    }

    private static void getting() {
        Run run = new Run("2 get");
        run.due(0x0007, "get", 0, 2);
        run.due(0x00070E15, "get", 0, 4);
        run.due(0xB9, "get", 63, 1);
        run.due(0xB900, "get", 63, 2);
        run.due(1, "set", 100, 4, -2);
        run.due(4294967294L, "get", 100, 4);
        run.due(65534, "get", 102, 2);
        run.due(254, "get", 103, 1);
        run.due(0, "get", 1020, 4);
        run.due(Run.OUTSIDE, "get", 1021, 4);
        run.due(0, "get", 1022, 2);
        run.due(Run.OUTSIDE, "get", 1023, 2);
        run.due(Run.OUTSIDE, "get", MOST, 4);
        for (int width : new int[] {0, 3, 5, 8, -1, MOST, LEAST}) {
            run.due(Run.BAD, "get", 0, width);
            run.due(Run.BAD, "get", 5000, width);
        }
        run.due(Run.BAD, "get", -1, 1);
        run.due(Run.BAD, "get", LEAST, 4);
    }

    private static void setting() {
        Run run = new Run("3 set");
        run.due(1, "set", 64, 1, 0x1234);
        run.due(0x34, "get", 64, 1);
        run.due(0, "get", 65, 1);
        run.due(1, "set", 66, 2, 0x12345678);
        run.due(0x5678, "get", 66, 2);
        run.due(0, "get", 68, 1);
        run.due(1, "set", 70, 4, 0x89ABCDEF);
        run.due(0x89ABCDEFL, "get", 70, 4);
        run.due(0x89, "get", 70, 1);
        run.due(0xEF, "get", 73, 1);
        run.due(1, "set", 1020, 4, -1);
        run.due(Run.READONLY, "set", 0, 1, 0);
        run.due(Run.READONLY, "set", 63, 1, 1);
        run.due(Run.READONLY, "set", 63, 2, 1);
        run.due(Run.READONLY, "set", 60, 4, 1);
        run.due(185, "get", 63, 1);
        run.due(0x34, "get", 64, 1);
        run.due(Run.OUTSIDE, "set", 1024, 1, 9);
        run.due(Run.OUTSIDE, "set", 1021, 4, 9);
        run.due(Run.OUTSIDE, "set", MOST, 4, 9);
        run.due(0xFFFFFFFFL, "get", 1020, 4);
        run.due(Run.BAD, "set", -1, 1, 9);
        run.due(Run.BAD, "set", LEAST, 4, 9);
        run.due(Run.BAD, "set", 64, 3, 9);
        run.due(Run.BAD, "set", 63, 0, 9);
        run.due(Run.BAD, "set", 4000, -4, 9);
    }

    private static void zeroing() {
        Run run = new Run("4 zero");
        run.due(1, "set", 64, 4, -1);
        run.due(1, "set", 68, 4, -1);
        run.due(1, "zero", 65, 5);
        run.due(0xFF000000L, "get", 64, 4);
        run.due(0x0000FFFFL, "get", 68, 4);
        run.due(1, "zero", 64, 960);
        run.due(0, "get", 70, 2);
        run.due(Run.OUTSIDE, "zero", 64, 961);
        run.due(Run.OUTSIDE, "zero", 0, 1025);
        run.due(Run.OUTSIDE, "zero", MOST, MOST);
        run.due(Run.OUTSIDE, "zero", 1, MOST);
        run.due(Run.OUTSIDE, "zero", 1024, 1);
        run.due(Run.READONLY, "zero", 63, 1);
        run.due(Run.READONLY, "zero", 0, 1024);
        run.due(185, "get", 63, 1);
        run.due(1, "zero", 0, 0);
        run.due(1, "zero", MOST, 0);
        run.due(Run.BAD, "zero", -1, 0);
        run.due(Run.BAD, "zero", -1, 1);
        run.due(Run.BAD, "zero", 64, -1);
        run.due(Run.BAD, "zero", LEAST, LEAST);
        run.due(Run.BAD, "zero", 5000, -1);
    }

    private static void copying() {
        Run run = new Run("5 copy");
        run.due(1, "copy", 0, 100, 8);
        run.due(0x00070E15, "get", 100, 4);
        run.due(0x1C232A31, "get", 104, 4);
        run.due(1, "copy", 100, 102, 8);
        run.due(0x0007, "get", 100, 2);
        run.due(0x00070E15, "get", 102, 4);
        run.due(0x1C232A31, "get", 106, 4);
        run.due(1, "copy", 102, 101, 8);
        run.due(0x00070E15, "get", 101, 4);
        run.due(0x1C232A31, "get", 105, 4);
        run.due(0x31, "get", 109, 1);
        run.due(1, "copy", 101, 101, 8);
        run.due(0x00070E15, "get", 101, 4);
        run.due(1, "copy", 0, 64, 960);
        run.due(0x07, "get", 65, 1);
        run.due(Run.OUTSIDE, "copy", 0, 64, 961);
        run.due(Run.OUTSIDE, "copy", 64, 0, 961);
        run.due(Run.OUTSIDE, "copy", 1023, 0, 2);
        run.due(Run.OUTSIDE, "copy", MOST, 64, MOST);
        run.due(Run.OUTSIDE, "copy", 64, MOST, MOST);
        run.due(Run.READONLY, "copy", 100, 63, 1);
        run.due(Run.READONLY, "copy", 0, 0, 1);
        run.due(185, "get", 63, 1);
        run.due(1, "copy", 0, 0, 0);
        run.due(1, "copy", MOST, MOST, 0);
        run.due(Run.BAD, "copy", -1, 64, 1);
        run.due(Run.BAD, "copy", 64, -1, 1);
        run.due(Run.BAD, "copy", 64, 64, -1);
        run.due(Run.BAD, "copy", 64, LEAST, 0);
        run.due(Run.BAD, "copy", 5000, 0, LEAST);
    }

    private static void resizing() {
        Run run = new Run("6 resize");
        run.due(1, "set", 255, 1, 5);
        run.due(1, "set", 256, 1, 6);
        run.due(1024, "resize", 1024);
        run.due(6, "get", 256, 1);
        run.due(1024, "resize", 256);
        run.due(5, "get", 255, 1);
        run.due(Run.OUTSIDE, "get", 256, 1);
        run.due(256, "resize", 8192);
        run.due(8192, "told", 0);
        run.due(0, "get", 256, 1);
        run.due(5, "get", 255, 1);
        run.due(0, "get", 8188, 4);
        for (int size : new int[] {0, 1, 255, 257, 8191, 8193, 8448, -256, -1, MOST, LEAST}) {
            run.due(Run.BAD, "resize", size);
        }
        run.due(8192, "resize", 512);
        run.due(512, "make", 1);
        run.due(Run.BAD, "resize", 100);
        run.due(Run.BUSY, "resize", 256);
        run.due(Run.BUSY, "resize", 768);
        run.heapIs(768, 512, 512, 1);
        run.due(1, "free", 512);
        run.due(512, "resize", 256);
    }
}
