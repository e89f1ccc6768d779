@Case("terms, ROM and FIRST")
public final class TermsRomTest {
    public static void main(String[] arguments) {
        Cases.run(TermsRomTest.class);
    }

    private static void romIsThere(Run run) {
        for (int i = 0; i < 64; i++) {
            run.due(7 * i % 256, "get", i, 1);
        }
    }

    @Case("always: behind calls that would write it")
    static void written() {
        Run run = new Run();
        run.refused(Run.READONLY, "set", 0, 4, -1);
        run.refused(Run.READONLY, "set", 63, 1, -1);
        run.refused(Run.READONLY, "zero", 0, 64);
        run.refused(Run.READONLY, "zero", 63, 961);
        run.refused(Run.READONLY, "copy", 100, 0, 64);
        run.refused(Run.READONLY, "copy", 0, 1, 63);
        romIsThere(run);
    }

    @Case("always: with the least SIZE and the greatest")
    static void sizes() {
        Run run = new Run();
        run.due(1024, "resize", 256);
        romIsThere(run);
        run.due(256, "resize", 8192);
        romIsThere(run);
    }

    @Case("always: when a STATE, the beginning or a CODE COMES BACK")
    static void comesBack() {
        Run run = new Run();
        run.due(1, "keep");
        run.due(6, "write");
        run.due(0, "back");
        romIsThere(run);
        run.due(1, "restart");
        romIsThere(run);
        run.due(1024, "read");
        romIsThere(run);
    }

    @Case("always: when it is PROTECTED")
    static void protectedRom() {
        Run run = new Run();
        run.due(1, "protect", 0, 64);
        run.due(1, "keep");
        run.due(6, "write");
        run.due(1024, "resize", 256);
        run.due(0, "back");
        run.due(1024, "read");
        run.due(1, "restart");
        romIsThere(run);
    }

    @Case("always: behind a CODE that would alter it and is refused")
    static void code() {
        Run run = new Run();
        run.giveCode(4, 0, 0, 0, 0, 0, 0, 62, 9);
        run.refused(-108, "read");
        romIsThere(run);
    }

    @Case("what is FIRST behind ROM is 0, also of bytes above the SIZE at first: CODE tells none of them")
    static void first() {
        Run run = new Run();
        run.due(1024, "resize", 8192);
        run.due(6, "write");
        run.due(1, "set", 8191, 1, 1);
        run.due(6 + 64 + 1, "write");
    }
}
