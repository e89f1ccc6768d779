@Case("promise 23, told")
public final class Promise23ToldTest {
    public static void main(String[] arguments) {
        Cases.run(Promise23ToldTest.class);
    }

    private static Run full() {
        Run run = new Run();
        run.due(1024, "make", 100);
        run.due(1124, "make", 50);
        run.due(1174, "make", 10);
        run.due(50, "free", 1124);
        run.due(1, "keep");
        run.due(2, "keep");
        run.due(1, "protect", 300, 20);
        run.due(14, "write");
        return run;
    }

    @Case("0 to 8: SIZE, START, USED, bytes, GAPS, KEPT, CODE, the PROTECTED stretch; nothing changes")
    static void all() {
        Run run = full();
        int[] due = {1280, 1024, 2, 110, 2, 2, 14, 300, 20};
        for (int what = 0; what < due.length; what++) {
            run.idle(due[what], "told", what);
        }
    }

    @Case("BAD: below 0, above 8")
    static void bad() {
        Run run = full();
        for (int what : new int[] {-1, 9, 10, -11, Run.MOST, Run.LEAST}) {
            run.refused(Run.BAD, "told", what);
        }
    }

    @Case("1: START is 0 without THE HEAP, at first and when it is gone")
    static void start() {
        Run run = new Run();
        run.due(0, "told", 1);
        run.due(1024, "make", 5);
        run.due(1024, "told", 1);
        run.due(5, "free", 1024);
        run.due(0, "told", 1);
        run.due(1024, "make", 5);
        run.due(1, "restart");
        run.due(0, "told", 1);
    }

    @Case("2, 3: none, 64 BLOCKS, the most bytes that can be USED")
    static void used() {
        Run run = new Run();
        run.due(0, "told", 2);
        run.due(0, "told", 3);
        run.makeRow(1024, 2, 64);
        run.due(64, "told", 2);
        run.due(128, "told", 3);
        run = new Run();
        run.due(1024, "resize", 256);
        run.due(256, "make", 7936);
        run.due(1, "told", 2);
        run.due(7936, "told", 3);
    }

    @Case("4: GAPS: none without THE HEAP, none when it is full, one at its end, ahead, between")
    static void gaps() {
        Run run = new Run();
        run.due(0, "told", 4);
        run.due(1024, "make", 100);
        run.due(1, "told", 4);
        run.due(1124, "make", 100);
        run.due(1224, "make", 56);
        run.due(0, "told", 4);
        run.due(100, "free", 1024);
        run.due(1, "told", 4);
        run.due(1024, "make", 99);
        run.due(1, "told", 4);
        run.due(100, "free", 1124);
        run.due(1, "told", 4);
        run.due(56, "free", 1224);
        run.due(1, "told", 4);
        run.due(99, "free", 1024);
        run.due(0, "told", 4);
    }

    @Case("4: the most GAPS: 64 BLOCKS with one ahead of each and one at the end")
    static void mostGaps() {
        int[] code = new int[6 + 4 * 64];
        code[0] = 5;
        code[2] = 4;
        code[5] = 64;
        for (int i = 0; i < 64; i++) {
            code[6 + 4 * i] = 4;
            code[7 + 4 * i] = 2 * i + 1;
            code[9 + 4 * i] = 1;
        }
        Run run = new Run();
        run.giveCode(code);
        run.due(1280, "read");
        run.due(64, "told", 2);
        run.due(64, "told", 3);
        run.due(65, "told", 4);
    }

    @Case("5: KEPT: 0 to 4, also behind a keep that is refused")
    static void kept() {
        Run run = new Run();
        for (int i = 0; i < 4; i++) {
            run.due(i, "told", 5);
            run.due(i + 1, "keep");
        }
        run.due(4, "told", 5);
        run.due(Run.FULL, "keep");
        run.due(4, "told", 5);
        run.due(3, "back");
        run.due(3, "told", 5);
    }

    @Case("6: bytes of CODE: 0 without one, what is written, what is left when it is cut")
    static void code() {
        Run run = new Run();
        run.due(0, "told", 6);
        run.due(6, "write");
        run.due(6, "told", 6);
        run.due(2, "cut", 4);
        run.due(4, "told", 6);
        run.due(4, "cut", 0);
        run.due(0, "told", 6);
    }

    @Case("7, 8: the PROTECTED stretch: 0 without one, also when it was taken away at a place above 0")
    static void stretch() {
        Run run = new Run();
        run.due(0, "told", 7);
        run.due(0, "told", 8);
        run.due(1, "protect", 5, 6);
        run.due(5, "told", 7);
        run.due(6, "told", 8);
        run.due(1, "protect", 7, 0);
        run.due(0, "told", 7);
        run.due(0, "told", 8);
        run.due(1, "protect", 8192, 8192);
        run.due(8192, "told", 7);
        run.due(8192, "told", 8);
    }
}
