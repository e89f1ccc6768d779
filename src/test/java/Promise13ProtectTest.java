@Case("promise 13, protect")
public final class Promise13ProtectTest {
    public static void main(String[] arguments) {
        Cases.run(Promise13ProtectTest.class);
    }

    @Case("n bytes from a place on: the first and the last of them stay, those beside them do not")
    static void stretch() {
        Run run = new Run();
        run.due(1, "protect", 101, 3);
        run.due(1, "set", 99, 4, 0x01020304);
        run.due(1, "set", 103, 4, 0x05060708);
        run.due(1, "restart");
        run.bytesAre(99, 0, 0, 3, 4, 5, 0, 0, 0);
        run.due(101, "told", 7);
        run.due(3, "told", 8);
    }

    @Case("one byte")
    static void oneByte() {
        Run run = new Run();
        run.due(1, "protect", 1023, 1);
        run.due(1, "set", 1020, 4, -1);
        run.due(1, "restart");
        run.bytesAre(1020, 0, 0, 0, 255);
    }

    @Case("in place of others")
    static void inPlaceOfOthers() {
        Run run = new Run();
        run.due(1, "protect", 100, 2);
        run.due(1, "protect", 102, 1);
        run.due(1, "set", 100, 4, -1);
        run.due(1, "restart");
        run.bytesAre(100, 0, 0, 255, 0);
        run.due(102, "told", 7);
        run.due(1, "told", 8);
    }

    @Case("n 0: none, at whatever place")
    static void none() {
        for (int at : new int[] {0, 100, 8192}) {
            Run run = new Run();
            run.due(1, "protect", 100, 4);
            run.due(1, "protect", at, 0);
            run.due(0, "told", 7);
            run.due(0, "told", 8);
            run.due(1, "set", 100, 4, -1);
            run.due(1, "restart");
            run.due(0, "get", 100, 4);
        }
    }

    @Case("the greatest place and the greatest n are 8192; BAD: above")
    static void greatest() {
        Run run = new Run();
        run.due(1, "protect", 8192, 1);
        run.due(8192, "told", 7);
        run.due(1, "protect", 0, 8192);
        run.due(0, "told", 7);
        run.due(8192, "told", 8);
        run.due(1, "protect", 8192, 8192);
        run.due(8192, "told", 7);
        run.due(8192, "told", 8);
        run.refused(Run.BAD, "protect", 8193, 1);
        run.refused(Run.BAD, "protect", 1, 8193);
        run.refused(Run.BAD, "protect", 8193, 0);
        run.refused(Run.BAD, "protect", Run.MOST, Run.MOST);
    }

    @Case("the least place and the least n are 0; BAD: below")
    static void least() {
        Run run = new Run();
        run.due(1, "protect", 0, 70);
        run.due(70, "told", 8);
        run.refused(Run.BAD, "protect", -1, 5);
        run.refused(Run.BAD, "protect", 5, -1);
        run.refused(Run.BAD, "protect", -1, 0);
        run.refused(Run.BAD, "protect", Run.LEAST, 5);
        run.refused(Run.BAD, "protect", 5, Run.LEAST);
    }

    @Case("a call that is refused leaves the stretch that was there")
    static void refusedLeavesTheStretch() {
        Run run = new Run();
        run.due(1, "protect", 100, 4);
        run.refused(Run.BAD, "protect", 200, -1);
        run.refused(Run.BAD, "protect", 8193, 0);
        run.due(1, "set", 100, 4, 5);
        run.due(1, "restart");
        run.due(5, "get", 100, 4);
    }

    @Case("the stretch may lie behind MEMORY, and in it later, when MEMORY has grown")
    static void behindMemory() {
        Run run = new Run();
        run.due(1, "protect", 2000, 4);
        run.due(1, "restart");
        run.due(1024, "resize", 2048);
        run.due(1, "set", 1996, 4, 5);
        run.due(1, "set", 2000, 4, 6);
        run.due(1, "keep");
        run.due(1, "set", 1996, 4, 7);
        run.due(1, "set", 2000, 4, 8);
        run.due(0, "back");
        run.due(5, "get", 1996, 4);
        run.due(8, "get", 2000, 4);
    }

    @Case("PROTECTED bytes can be written; only what COMES BACK leaves them")
    static void canBeWritten() {
        Run run = new Run();
        run.due(1, "protect", 64, 8192);
        run.due(1, "set", 100, 4, 5);
        run.due(5, "get", 100, 4);
        run.due(1, "copy", 100, 300, 4);
        run.due(5, "get", 300, 4);
        run.due(1, "zero", 100, 4);
        run.due(0, "get", 100, 4);
        run.due(1024, "resize", 256);
        run.due(Run.OUTSIDE, "get", 256, 1);
        run.due(256, "resize", 1024);
        run.due(0, "get", 300, 4);
    }
}
