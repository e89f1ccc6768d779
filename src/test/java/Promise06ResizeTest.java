@Case("promise 6, resize")
public final class Promise06ResizeTest {
    public static void main(String[] arguments) {
        Cases.run(Promise06ResizeTest.class);
    }

    @Case("the answer is what SIZE was, also if it stays the same")
    static void answer() {
        Run run = new Run();
        run.due(1024, "resize", 768);
        run.due(768, "resize", 2048);
        run.due(2048, "told", 0);
        run.idle(2048, "resize", 2048);
    }

    @Case("256 is the least SIZE; BAD: less")
    static void least() {
        Run run = new Run();
        for (int size : new int[] {255, 128, 1, 0, -1, -256, -1024, Run.LEAST}) {
            run.refused(Run.BAD, "resize", size);
        }
        run.due(1024, "resize", 256);
        run.due(256, "told", 0);
        run.bytesAre(0, 0, 7);
        run.bytesAre(63, 185, 0);
        run.due(0, "get", 255, 1);
        run.due(Run.OUTSIDE, "get", 256, 1);
    }

    @Case("8192 is the greatest SIZE; BAD: more")
    static void greatest() {
        Run run = new Run();
        for (int size : new int[] {8193, 8448, 16384, 65536, Run.MOST, Run.MOST - 255}) {
            run.refused(Run.BAD, "resize", size);
        }
        run.due(1024, "resize", 8192);
        run.due(8192, "told", 0);
        run.due(0, "get", 8191, 1);
        run.due(Run.OUTSIDE, "get", 8192, 1);
    }

    @Case("BAD: no multiple of 256")
    static void multiples() {
        Run run = new Run();
        for (int size : new int[] {257, 511, 513, 1000, 1023, 1025, 1152, 8191}) {
            run.refused(Run.BAD, "resize", size);
        }
        run.due(1024, "resize", 512);
    }

    @Case("bytes above it go: they are 0 when they are new again, and the last one below it stays")
    static void bytesGo() {
        Run run = new Run();
        run.due(1, "set", 510, 4, 0x01020304);
        run.due(1, "set", 1020, 4, -1);
        run.due(1024, "resize", 512);
        run.bytesAre(510, 1, 2);
        run.due(Run.OUTSIDE, "get", 512, 1);
        run.due(512, "resize", 1024);
        run.bytesAre(510, 1, 2, 0, 0);
        run.due(0, "get", 1020, 4);
    }

    @Case("new bytes are 0, from the first to the last")
    static void newBytes() {
        Run run = new Run();
        run.due(1, "set", 1023, 1, 9);
        run.due(1024, "resize", 2560);
        run.bytesAre(1023, 9);
        for (int at = 1024; at < 2560; at += 4) {
            run.due(0, "get", at, 4);
        }
    }

    @Case("BUSY: as long as there is THE HEAP, also with the same SIZE")
    static void busy() {
        Run run = new Run();
        run.due(1024, "make", 1);
        run.due(1025, "make", 1);
        for (int size : new int[] {256, 1024, 1280, 8192}) {
            run.refused(Run.BUSY, "resize", size);
        }
        run.due(1, "free", 1024);
        run.refused(Run.BUSY, "resize", 1280);
        run.due(1, "free", 1025);
        run.due(1024, "resize", 1280);
    }

    @Case("BAD comes ahead of BUSY")
    static void order() {
        Run run = new Run();
        run.due(1024, "make", 1);
        for (int size : new int[] {0, 255, 257, 8448, -256}) {
            run.refused(Run.BAD, "resize", size);
        }
    }
}
