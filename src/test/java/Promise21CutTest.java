@Case("promise 21, cut")
public final class Promise21CutTest {
    public static void main(String[] arguments) {
        Cases.run(Promise21CutTest.class);
    }

    private static Run coded() {
        Run run = new Run();
        run.due(1, "set", 64, 1, 200);
        run.due(9, "write");
        return run;
    }

    @Case("the first n bytes stay, the answer is how many went")
    static void some() {
        Run run = coded();
        run.due(1, "cut", 8);
        run.codeIs(0, 4, 0, 0, 0, 0, 0, 0, 63);
        run.due(5, "cut", 3);
        run.codeIs(0, 4, 0, 0);
    }

    @Case("all of them stay: 0 went, and nothing changes")
    static void allStay() {
        Run run = coded();
        run.idle(0, "cut", 9);
    }

    @Case("none of them stays")
    static void noneStays() {
        Run run = coded();
        run.due(9, "cut", 0);
        run.codeIs(0);
        run.due(-100, "read");
        run.idle(0, "cut", 0);
    }

    @Case("BAD: n is below 0")
    static void belowZero() {
        Run run = coded();
        run.refused(Run.BAD, "cut", -1);
        run.refused(Run.BAD, "cut", Run.LEAST);
    }

    @Case("BAD: CODE has not so many bytes")
    static void tooMany() {
        Run run = coded();
        run.refused(Run.BAD, "cut", 10);
        run.refused(Run.BAD, "cut", 12550);
        run.refused(Run.BAD, "cut", Run.MOST);
        run.due(4, "cut", 5);
        run.refused(Run.BAD, "cut", 6);
        run.refused(Run.BAD, "cut", 9);
    }

    @Case("without a CODE: none stay and none went; BAD: one")
    static void noCode() {
        Run run = new Run();
        run.idle(0, "cut", 0);
        run.refused(Run.BAD, "cut", 1);
        run.refused(Run.BAD, "cut", -1);
    }

    @Case("bytes that went do not come again but by write")
    static void gone() {
        Run run = coded();
        run.due(6, "cut", 3);
        run.due(Run.NONE, "code", 3);
        run.due(9, "write");
        run.codeIs(0, 4, 0, 0, 0, 0, 0, 0, 63, 200);
    }
}
