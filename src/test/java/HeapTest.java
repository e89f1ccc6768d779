/** Promises 7 to 9. */
public final class HeapTest {
    private static final int MOST = Integer.MAX_VALUE, LEAST = Integer.MIN_VALUE;

    public static void main(String[] arguments) {
        making();
        growing();
        limits();
        freeing();
        blocks();
        Run.end();
    }

    private static void making() {
        Run run = new Run("7 make, first fit");
        run.due(1024, "make", 10);
        run.due(1034, "make", 20);
        run.due(1054, "make", 30);
        run.due(1084, "make", 40);
        run.heapIs(1280, 1024, 1024, 10, 1034, 20, 1054, 30, 1084, 40);
        run.due(20, "free", 1034);
        run.due(1034, "make", 5);
        run.due(1124, "make", 16);
        run.due(1039, "make", 15);
        run.due(10, "free", 1024);
        run.due(1024, "make", 9);
        run.due(1033, "make", 1);
        run.heapIs(1280, 1024, 1024, 9, 1033, 1, 1034, 5, 1039, 15, 1054, 30, 1084, 40, 1124, 16);
        run.due(Run.BAD, "make", 0);
        run.due(Run.BAD, "make", -1);
        run.due(Run.BAD, "make", LEAST);
    }

    private static void growing() {
        Run run = new Run("7 make, memory grows");
        run.due(1024, "make", 256);
        run.due(1280, "told", 0);
        run.due(0, "told", 4);
        run.due(1280, "make", 1);
        run.due(1536, "told", 0);
        run.due(1281, "make", 256);
        run.due(1792, "told", 0);
        run.due(1, "set", 1700, 1, 9);
        run.due(1537, "make", 255);
        run.due(1792, "told", 0);
        run.due(9, "get", 1700, 1);
        run.due(255, "free", 1537);
        run.due(9, "get", 1700, 1);
        run.due(1537, "make", 800);
        run.due(2560, "told", 0);
        run.due(9, "get", 1700, 1);
        run.due(0, "get", 2556, 4);
        run.due(1024, "told", 1);
    }

    private static void limits() {
        Run run = new Run("7 make, limits");
        run.due(0, "make", 7169);
        run.due(0, "make", MOST);
        run.heapIs(1024, 0);
        run.due(1024, "make", 7168);
        run.heapIs(8192, 1024, 1024, 7168);
        run.due(0, "make", 1);
        run.due(7168, "free", 1024);
        run.due(1024, "resize", 8192);
        run.due(0, "make", 1);
        run.heapIs(8192, 0);

        run = new Run("7 make, 64 blocks");
        for (int i = 0; i < 64; i++) {
            run.due(1024 + 3 * i, "make", 3);
        }
        run.due(0, "make", 1);
        run.due(64, "told", 2);
        run.due(192, "told", 3);
        run.due(3, "free", 1027);
        run.due(1216, "make", 4);
        run.due(0, "make", 3);
        run.due(0, "make", MOST);
        run.due(2, "told", 4);
        run.due(64, "told", 2);
    }

    private static void freeing() {
        Run run = new Run("8 free");
        run.due(Run.BAD, "free", 0);
        run.due(Run.BAD, "free", 1024);
        run.due(1024, "make", 10);
        run.due(1034, "make", 300);
        run.due(1536, "told", 0);
        run.due(1, "set", 1040, 4, 77);
        run.due(300, "free", 1034);
        run.due(77, "get", 1040, 4);
        run.heapIs(1536, 1024, 1024, 10);
        run.due(Run.BAD, "free", 1034);
        run.due(Run.BAD, "free", 1025);
        run.due(Run.BAD, "free", -1);
        run.due(Run.BAD, "free", 0);
        run.due(Run.BAD, "free", MOST);
        run.due(10, "free", 1024);
        run.heapIs(1024, 0);
        run.due(Run.OUTSIDE, "get", 1040, 4);
        run.due(Run.BAD, "free", 1024);
        run.due(1024, "make", 100);
        run.due(0, "get", 1040, 4);
        run.due(100, "free", 1024);
        run.due(1024, "resize", 512);
        run.due(512, "make", 600);
        run.heapIs(1280, 512, 512, 600);
        run.due(600, "free", 512);
        run.due(512, "told", 0);
    }

    private static void blocks() {
        Run run = new Run("9 block");
        run.due(1024, "make", 10);
        run.due(1034, "make", 20);
        run.due(1054, "make", 226);
        run.due(0, "block", 0, 2);
        run.due(0, "block", 2, 2);
        run.due(0, "told", 4);
        run.due(20, "free", 1034);
        run.due(20, "block", 0, 2);
        run.due(1, "told", 4);
        run.due(236, "told", 3);
        run.due(1054, "block", 1, 0);
        run.due(226, "block", 1, 1);
        run.due(0, "block", 1, 2);
        run.due(10, "free", 1024);
        run.due(1, "told", 4);
        run.due(1054, "block", 0, 0);
        run.due(0, "block", 0, 2);
        run.due(1024, "make", 30);
        run.due(1280, "make", 1);
        run.due(255, "block", 2, 2);
        for (int i : new int[] {-1, 3, 64, MOST, LEAST}) {
            run.due(Run.BAD, "block", i, 0);
        }
        for (int what : new int[] {-1, 3, MOST, LEAST}) {
            run.due(Run.BAD, "block", 0, what);
        }
    }
}
