@Case("promise 14, keep")
public final class Promise14KeepTest {
    public static void main(String[] arguments) {
        Cases.run(Promise14KeepTest.class);
    }

    @Case("the answer is how many are KEPT, from 1 to 4")
    static void howMany() {
        Run run = new Run();
        for (int i = 1; i <= 4; i++) {
            run.due(i, "keep");
            run.due(i, "told", 5);
        }
    }

    @Case("FULL: four are KEPT; the last one stays the last")
    static void full() {
        Run run = new Run();
        for (int i = 1; i <= 4; i++) {
            run.due(1, "set", 100, 1, i);
            run.due(i, "keep");
        }
        run.due(1, "set", 100, 1, 9);
        run.refused(Run.FULL, "keep");
        run.refused(Run.FULL, "keep");
        run.due(0, "same");
        run.due(3, "back");
        run.bytesAre(100, 4);
    }

    @Case("where one CAME BACK there is room for one more")
    static void roomAgain() {
        Run run = new Run();
        for (int i = 1; i <= 4; i++) {
            run.due(i, "keep");
        }
        run.due(3, "back");
        run.due(1, "set", 100, 1, 7);
        run.due(4, "keep");
        run.refused(Run.FULL, "keep");
        run.due(1, "set", 100, 1, 8);
        run.due(3, "back");
        run.bytesAre(100, 7);
    }

    @Case("what is KEPT stays as it is, whatever happens to MEMORY, SIZE and THE HEAP")
    static void staysAsItIs() {
        Run run = new Run();
        run.due(1024, "make", 10);
        run.due(1, "set", 100, 4, 5);
        run.due(1, "set", 1030, 4, 6);
        run.due(1, "keep");
        run.due(1, "set", 100, 4, 7);
        run.due(1, "zero", 1024, 100);
        run.due(1034, "make", 1000);
        run.due(10, "free", 1024);
        run.due(1000, "free", 1034);
        run.due(1024, "resize", 256);
        run.due(1, "restart");
        run.due(0, "back");
        run.heapIs(1280, 1024, 1024, 10);
        run.due(5, "get", 100, 4);
        run.due(6, "get", 1030, 4);
    }

    @Case("to keep changes nothing but how many are KEPT")
    static void changesNothingElse() {
        Run run = new Run();
        run.due(1024, "make", 10);
        run.due(1, "set", 1024, 4, 5);
        run.due(1, "protect", 3, 4);
        run.due(10 + 2 * 5 + 1, "write");
        run.due(1, "keep");
        run.heapIs(1280, 1024, 1024, 10);
        run.due(5, "get", 1024, 4);
        run.due(3, "told", 7);
        run.due(4, "told", 8);
        run.due(21, "told", 6);
    }
}
