@Case("promise 1, a new object")
public final class Promise01NewObjectTest {
    public static void main(String[] arguments) {
        Cases.run(Promise01NewObjectTest.class);
    }

    @Case("SIZE is 1024: byte 1023 is there, byte 1024 is not")
    static void size() {
        Run run = new Run();
        run.due(1024, "told", 0);
        run.due(0, "get", 1023, 1);
        run.refused(Run.OUTSIDE, "get", 1024, 1);
    }

    @Case("ROM, bytes 0 to 63: byte i is 7 i modulo 256, also where 7 i is above 255")
    static void rom() {
        Run run = new Run();
        for (int i = 0; i <= 63; i++) {
            run.due(7 * i % 256, "get", i, 1);
        }
        run.bytesAre(36, 252, 3);
        run.bytesAre(63, 185);
    }

    @Case("the bytes from 64 to the last one are 0")
    static void allOthers() {
        Run run = new Run();
        for (int at = 64; at < 1024; at += 4) {
            run.due(0, "get", at, 4);
        }
    }

    @Case("there is no heap: no START, no BLOCK, no byte that is USED, no GAP")
    static void noHeap() {
        Run run = new Run();
        for (int what = 1; what <= 4; what++) {
            run.due(0, "told", what);
        }
        run.refused(Run.BAD, "block", 0, 0);
        run.refused(Run.BAD, "free", 1024);
        run.due(1024, "resize", 512);
    }

    @Case("nothing is KEPT")
    static void nothingKept() {
        Run run = new Run();
        run.due(0, "told", 5);
        run.refused(Run.BAD, "back");
        run.refused(Run.BAD, "same");
        run.due(1, "keep");
    }

    @Case("there is no CODE")
    static void noCode() {
        Run run = new Run();
        run.due(0, "told", 6);
        run.due(Run.NONE, "code", 0);
        run.refused(Run.BAD, "poke", 0, 0);
        run.refused(-100, "read");
    }

    @Case("nothing is PROTECTED")
    static void nothingProtected() {
        Run run = new Run();
        run.due(0, "told", 7);
        run.due(0, "told", 8);
        run.due(1, "set", 64, 1, 9);
        run.due(1, "set", 1023, 1, 9);
        run.due(1, "restart");
        run.bytesAre(64, 0);
        run.bytesAre(1023, 0);
    }

    @Case("two objects have nothing in common")
    static void apart() {
        Run other = new Run();
        Run run = new Run();
        other.due(1, "set", 100, 4, -1);
        other.due(1024, "make", 10);
        other.due(1, "keep");
        other.due(1, "protect", 5, 5);
        other.due(10 + 2 + 4, "write");
        run.heapIs(1024, 0);
        run.due(0, "get", 100, 4);
        for (int what = 3; what <= 8; what++) {
            run.due(0, "told", what);
        }
    }
}
