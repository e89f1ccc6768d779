/** Promises 13 to 17. */
public final class StatesTest {
    private static final int MOST = Integer.MAX_VALUE, LEAST = Integer.MIN_VALUE;

    public static void main(String[] arguments) {
        protecting();
        keeping();
        comingBack();
        sizesApart();
        restarting();
        sameness();
        Run.end();
    }

    private static void protecting() {
        Run run = new Run("13 protect");
        run.due(1, "protect", 100, 8);
        run.due(100, "told", 7);
        run.due(8, "told", 8);
        run.due(1, "protect", 8192, 1);
        run.due(8192, "told", 7);
        run.due(1, "protect", 0, 8192);
        run.due(0, "told", 7);
        run.due(8192, "told", 8);
        for (int wrong : new int[] {-1, 8193, MOST, LEAST}) {
            run.due(Run.BAD, "protect", wrong, 1);
            run.due(Run.BAD, "protect", 1, wrong);
            run.due(Run.BAD, "protect", wrong, 0);
        }
        run.due(8192, "told", 8);
        run.due(1, "protect", 100, 0);
        run.due(0, "told", 7);
        run.due(0, "told", 8);
        // A stretch takes the place of the one before.
        run.due(1, "protect", 100, 4);
        run.due(1, "protect", 104, 4);
        run.due(1, "set", 100, 4, 1);
        run.due(1, "set", 104, 4, 2);
        run.due(1, "restart");
        run.due(0, "get", 100, 4);
        run.due(2, "get", 104, 4);
        run.due(1, "protect", 104, 0);
        run.due(1, "restart");
        run.due(0, "get", 104, 4);
    }

    private static void keeping() {
        Run run = new Run("14 keep, 15 back: the last one first");
        for (int i = 1; i <= 4; i++) {
            run.due(1, "set", 200, 1, i);
            run.due(i, "keep");
            run.due(i, "told", 5);
        }
        run.due(1, "set", 200, 1, 9);
        run.due(Run.FULL, "keep");
        run.due(4, "told", 5);
        run.due(9, "get", 200, 1);
        for (int i = 4; i >= 1; i--) {
            run.due(i - 1, "back");
            run.due(i, "get", 200, 1);
            run.due(i - 1, "told", 5);
        }
        run.due(Run.BAD, "back");
        run.due(1, "get", 200, 1);
        // What is kept is a state of its own, whatever happens behind it.
        run.due(1, "keep");
        run.due(1, "set", 200, 1, 5);
        run.due(2, "keep");
        run.due(1, "set", 200, 1, 6);
        run.due(1, "back");
        run.due(1, "set", 200, 1, 7);
        run.due(2, "keep");
        run.due(1, "set", 200, 1, 8);
        run.due(1, "back");
        run.due(7, "get", 200, 1);
        run.due(0, "back");
        run.due(1, "get", 200, 1);
    }

    private static void comingBack() {
        Run run = new Run("15 back");
        run.due(1024, "make", 10);
        run.due(1034, "make", 20);
        run.due(1, "set", 1030, 4, 5);
        run.due(1, "protect", 1032, 4);
        run.due(1, "keep");
        run.due(10, "free", 1024);
        run.due(20, "free", 1034);
        run.due(1024, "resize", 512);
        run.due(512, "make", 600);
        run.due(1, "set", 1030, 4, -1);
        run.due(1, "set", 1034, 4, -1);
        run.due(0, "back");
        run.heapIs(1280, 1024, 1024, 10, 1034, 20);
        run.due(0x0000FFFFL, "get", 1030, 4);
        run.due(0xFFFF0000L, "get", 1034, 4);
        run.due(1054, "make", 3);
    }

    private static void sizesApart() {
        Run run = new Run("15 back: only bytes that memory has now and then are protected");
        run.due(1, "protect", 500, 8192);
        run.due(1, "set", 510, 4, 0x01020304);
        run.due(1, "keep");
        run.due(1024, "resize", 512);
        run.due(1, "set", 510, 2, 0x0909);
        run.due(0, "back");
        run.due(0x09090304L, "get", 510, 4);
        run.due(1024, "resize", 512);
        run.due(1, "keep");
        run.due(512, "resize", 1024);
        run.due(1, "set", 510, 4, 0x05060708);
        run.due(0, "back");
        run.due(0x0506, "get", 510, 2);
        run.due(Run.OUTSIDE, "get", 512, 1);
        run.due(512, "resize", 1024);
        run.due(0, "get", 512, 4);
    }

    private static void restarting() {
        Run run = new Run("16 restart");
        run.due(1, "protect", 70, 2);
        run.due(1, "set", 68, 4, -1);
        run.due(1, "set", 72, 4, -1);
        run.due(1, "keep");
        run.due(1024, "make", 300);
        run.due(1, "set", 1200, 1, 5);
        int length = 6 + 4 + 2 + 8 + 2 * 5 + 1;
        run.due(length, "write");
        run.due(1, "restart");
        run.heapIs(1024, 0);
        run.due(0x0000FFFFL, "get", 68, 4);
        run.due(0, "get", 72, 4);
        run.due(7 * 63 % 256, "get", 63, 1);
        run.due(1, "told", 5);
        run.due(length, "told", 6);
        run.due(70, "told", 7);
        run.due(2, "told", 8);
        run.due(1024, "make", 300);
        run.due(0, "get", 1200, 1);
        run.due(300, "free", 1024);
        run.due(1024, "resize", 256);
        run.due(1, "restart");
        run.due(1024, "told", 0);
        run.due(0xFFFF, "get", 70, 2);
        run.due(0, "back");
        run.due(0xFFFFFFFFL, "get", 72, 4);
    }

    private static void sameness() {
        Run run = new Run("17 same");
        run.due(Run.BAD, "same");
        run.due(1, "keep");
        run.due(1, "same");
        run.due(1, "set", 1023, 1, 1);
        run.due(0, "same");
        run.due(1, "set", 1023, 1, 0);
        run.due(1, "same");
        run.due(1024, "resize", 768);
        run.due(0, "same");
        run.due(768, "resize", 1024);
        run.due(1, "same");
        run.due(1024, "make", 20);
        run.due(0, "same");
        run.due(20, "free", 1024);
        run.due(1, "same");
        // Protected bytes are looked at like all others.
        run.due(1, "protect", 100, 4);
        run.due(1, "set", 100, 1, 1);
        run.due(0, "same");
        run.due(2, "keep");
        run.due(1, "same");
        run.due(1, "back");
        run.due(0, "same");
        run.due(1, "zero", 100, 1);
        run.due(1, "same");

        run = new Run("17 same, the heap");
        run.due(1024, "make", 20);
        run.due(1044, "make", 30);
        run.due(1, "keep");
        run.due(20, "free", 1024);
        run.due(0, "same");
        run.due(1024, "make", 19);
        run.due(0, "same");
        run.due(19, "free", 1024);
        run.due(1024, "make", 20);
        run.due(1, "same");
        // The same blocks, size and bytes with another beginning of the heap are another heap.
        run.due(1, "restart");
        run.due(1024, "resize", 768);
        run.due(768, "make", 256);
        run.due(1024, "make", 20);
        run.due(1044, "make", 30);
        run.due(256, "free", 768);
        run.heapIs(1280, 768, 1024, 20, 1044, 30);
        run.due(0, "same");
    }
}
