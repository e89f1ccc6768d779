@Case("promise 17, same")
public final class Promise17SameTest {
    public static void main(String[] arguments) {
        Cases.run(Promise17SameTest.class);
    }

    @Case("BAD: none is KEPT, at first and when all CAME BACK")
    static void bad() {
        Run run = new Run();
        run.refused(Run.BAD, "same");
        run.due(1, "keep");
        run.due(1, "same");
        run.due(0, "back");
        run.refused(Run.BAD, "same");
    }

    @Case("nothing changes, be it 1 or 0")
    static void changesNothing() {
        Run run = new Run();
        run.due(1024, "make", 5);
        run.due(1, "keep");
        run.idle(1, "same");
        run.due(1, "set", 1024, 1, 1);
        run.idle(0, "same");
    }

    @Case("MEMORY: one byte is another: the first behind ROM, the last, the lowest bit, the highest bit")
    static void memory() {
        Run run = new Run();
        run.due(1, "keep");
        for (int at : new int[] {64, 500, 1023}) {
            for (int v : new int[] {1, 128}) {
                run.due(1, "set", at, 1, v);
                run.due(0, "same");
                run.due(1, "set", at, 1, 0);
                run.due(1, "same");
            }
        }
    }

    @Case("SIZE: another one, while all bytes that both have are alike")
    static void size() {
        Run run = new Run();
        run.due(1, "keep");
        run.due(1024, "resize", 768);
        run.due(0, "same");
        run.due(768, "resize", 1280);
        run.due(0, "same");
        run.due(1280, "resize", 1024);
        run.due(1, "same");
    }

    @Case("THE HEAP: one that is there, while SIZE and bytes are alike")
    static void heapOrNone() {
        Run run = new Run();
        run.due(1024, "resize", 1280);
        run.due(1, "keep");
        run.due(1280, "resize", 1024);
        run.due(1024, "make", 256);
        run.due(1280, "told", 0);
        run.due(0, "same");
    }

    @Case("THE HEAP: a BLOCK less, one that is shorter, one at another place")
    static void blocks() {
        Run run = new Run();
        run.due(1024, "make", 20);
        run.due(1044, "make", 30);
        run.due(1, "keep");
        run.due(20, "free", 1024);
        run.due(0, "same");
        run.due(1024, "make", 19);
        run.due(0, "same");
        run.due(1043, "make", 1);
        run.due(0, "same");
        run.due(19, "free", 1024);
        run.due(0, "same");
        run.due(1, "free", 1043);
        run.due(1024, "make", 20);
        run.due(1, "same");
        run.due(30, "free", 1044);
        run.due(1044, "make", 31);
        run.due(0, "same");
        run.due(31, "free", 1044);
        run.due(1044, "make", 1);
        run.due(1045, "make", 30);
        run.due(1, "free", 1044);
        run.due(0, "same");
    }

    @Case("THE HEAP: another START, while SIZE, BLOCKS and bytes are alike")
    static void start() {
        Run run = new Run();
        run.due(1024, "make", 20);
        run.due(1, "keep");
        run.due(1, "restart");
        run.due(1024, "resize", 768);
        run.due(768, "make", 256);
        run.due(1024, "make", 20);
        run.due(256, "free", 768);
        run.heapIs(1280, 768, 1024, 20);
        run.due(0, "same");
    }

    @Case("the STATE that was KEPT last counts, not those ahead of it")
    static void last() {
        Run run = new Run();
        run.due(1, "keep");
        run.due(1, "set", 100, 1, 1);
        run.due(2, "keep");
        run.due(1, "same");
        run.due(1, "set", 100, 1, 0);
        run.due(0, "same");
        run.due(1, "back");
        run.bytesAre(100, 1);
        run.due(0, "same");
        run.due(1, "zero", 100, 1);
        run.due(1, "same");
    }

    @Case("PROTECTED bytes count like all others")
    static void protectedBytes() {
        Run run = new Run();
        run.due(1, "protect", 100, 4);
        run.due(1, "keep");
        run.due(1, "set", 100, 1, 1);
        run.due(0, "same");
        run.due(1, "zero", 100, 1);
        run.due(1, "same");
    }

    @Case("CODE and the PROTECTED stretch do not count")
    static void othersDoNotCount() {
        Run run = new Run();
        run.due(1, "keep");
        run.due(1, "protect", 100, 4);
        run.due(6, "write");
        run.due(1, "same");
    }
}
