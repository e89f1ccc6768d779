@Case("promise 20, poke")
public final class Promise20PokeTest {
    public static void main(String[] arguments) {
        Cases.run(Promise20PokeTest.class);
    }

    private static Run coded() {
        Run run = new Run();
        run.due(1, "set", 64, 1, 200);
        run.due(9, "write");
        return run;
    }

    @Case("the answer is what it was; the first byte and the last; no byte beside it changes")
    static void ends() {
        Run run = coded();
        run.due(4, "poke", 0, 9);
        run.due(9, "poke", 0, 3);
        run.due(200, "poke", 8, 7);
        run.due(63, "poke", 7, 62);
        run.codeIs(0, 3, 0, 0, 0, 0, 0, 0, 62, 7);
    }

    @Case("v 0 and 255; BAD: -1, 256")
    static void values() {
        Run run = coded();
        run.due(200, "poke", 8, 255);
        run.due(255, "poke", 8, 0);
        run.due(0, "poke", 8, 128);
        run.due(128, "code", 8);
        for (int v : new int[] {-1, 256, 300, -128, Run.MOST, Run.LEAST}) {
            run.refused(Run.BAD, "poke", 8, v);
        }
    }

    @Case("BAD: no such byte: ahead of the first, behind the last")
    static void noSuchByte() {
        Run run = coded();
        for (int i : new int[] {-1, 9, 10, 12549, Run.MOST, Run.LEAST}) {
            run.refused(Run.BAD, "poke", i, 5);
        }
    }

    @Case("BAD: without a CODE")
    static void noCode() {
        Run run = new Run();
        run.refused(Run.BAD, "poke", 0, 0);
        run.refused(Run.BAD, "poke", -1, 0);
    }

    @Case("BAD: a byte that was cut; the last one that stays can be altered")
    static void cut() {
        Run run = coded();
        run.due(4, "cut", 5);
        run.refused(Run.BAD, "poke", 5, 1);
        run.refused(Run.BAD, "poke", 8, 1);
        run.due(0, "poke", 4, 1);
        run.due(5, "cut", 0);
        run.refused(Run.BAD, "poke", 0, 1);
    }

    @Case("MEMORY, SIZE and THE HEAP stay as they are until CODE is read")
    static void onlyTheCode() {
        Run run = coded();
        run.due(4, "poke", 0, 5);
        run.due(200, "poke", 8, 9);
        run.heapIs(1024, 0);
        run.bytesAre(64, 200);
        run.due(1280, "read");
        run.bytesAre(64, 9);
    }
}
