@Case("promise 19, code")
public final class Promise19CodeTest {
    public static void main(String[] arguments) {
        Cases.run(Promise19CodeTest.class);
    }

    @Case("NONE: no CODE was written")
    static void noCode() {
        Run run = new Run();
        for (int i : new int[] {0, 1, -1, Run.MOST, Run.LEAST}) {
            run.idle(Run.NONE, "code", i);
        }
    }

    @Case("the first byte and the last; NONE: ahead of the first, behind the last")
    static void ends() {
        Run run = new Run();
        run.due(1, "set", 64, 1, 255);
        run.due(9, "write");
        run.idle(4, "code", 0);
        run.idle(255, "code", 8);
        run.idle(Run.NONE, "code", 9);
        run.idle(Run.NONE, "code", -1);
        run.due(Run.NONE, "code", 12550);
        run.due(Run.NONE, "code", Run.MOST);
        run.due(Run.NONE, "code", Run.LEAST);
    }

    @Case("a byte has no sign: 128 and 255")
    static void withoutSign() {
        Run run = new Run();
        run.due(1, "set", 64, 2, 0x80FF);
        run.due(10, "write");
        run.due(128, "code", 8);
        run.due(255, "code", 9);
    }

    @Case("NONE: bytes that were cut, or that a longer CODE had")
    static void gone() {
        Run run = new Run();
        run.due(1, "set", 64, 1, 5);
        run.due(9, "write");
        run.due(4, "cut", 5);
        run.due(0, "code", 4);
        run.due(Run.NONE, "code", 5);
        run.due(Run.NONE, "code", 8);
        run.due(1, "zero", 64, 1);
        run.due(6, "write");
        run.due(0, "code", 5);
        run.due(Run.NONE, "code", 6);
        run.due(Run.NONE, "code", 8);
    }
}
