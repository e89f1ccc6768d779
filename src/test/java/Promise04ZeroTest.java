@Case("promise 4, zero")
public final class Promise04ZeroTest {
    public static void main(String[] arguments) {
        Cases.run(Promise04ZeroTest.class);
    }

    private static Run filled() {
        Run run = new Run();
        run.due(1, "set", 64, 4, -1);
        run.due(1, "set", 68, 4, -1);
        run.due(1, "set", 1020, 4, -1);
        return run;
    }

    @Case("n bytes become 0, and no byte beside them")
    static void some() {
        Run run = filled();
        run.due(1, "zero", 66, 1);
        run.bytesAre(64, 255, 255, 0, 255);
        run.due(1, "zero", 65, 5);
        run.bytesAre(64, 255, 0, 0, 0, 0, 0, 255, 255);
    }

    @Case("of none: 1, wherever the place lies, and nothing changes")
    static void none() {
        Run run = filled();
        for (int at : new int[] {0, 63, 64, 1023, 1024, 8192, Run.MOST}) {
            run.idle(1, "zero", at, 0);
        }
    }

    @Case("OUTSIDE: up to the last byte of MEMORY, and one more")
    static void upToTheEnd() {
        Run run = filled();
        run.refused(Run.OUTSIDE, "zero", 64, 961);
        run.refused(Run.OUTSIDE, "zero", 1023, 2);
        run.refused(Run.OUTSIDE, "zero", 1024, 1);
        run.due(1, "zero", 1023, 1);
        run.bytesAre(1020, 255, 255, 255, 0);
        run.due(1, "zero", 64, 960);
        run.bytesAre(64, 0, 0, 0, 0, 0, 0, 0, 0);
        run.bytesAre(1020, 0, 0, 0, 0);
        run.bytesAre(63, 185);
    }

    @Case("OUTSIDE: numbers so great that their sum wraps around")
    static void wraps() {
        Run run = filled();
        run.refused(Run.OUTSIDE, "zero", 64, Run.MOST);
        run.refused(Run.OUTSIDE, "zero", Run.MOST, 1);
        run.refused(Run.OUTSIDE, "zero", Run.MOST, Run.MOST);
        run.refused(Run.OUTSIDE, "zero", Run.MOST - 10, 100);
    }

    @Case("READONLY: the last byte of ROM; the next may be written")
    static void rom() {
        Run run = filled();
        run.refused(Run.READONLY, "zero", 63, 1);
        run.refused(Run.READONLY, "zero", 63, 2);
        run.refused(Run.READONLY, "zero", 0, 1);
        run.refused(Run.READONLY, "zero", 0, 64);
        run.refused(Run.READONLY, "zero", 0, 1024);
        run.due(1, "zero", 64, 1);
        run.bytesAre(63, 185, 0, 255);
    }

    @Case("OUTSIDE comes ahead of READONLY")
    static void outsideFirst() {
        Run run = filled();
        run.refused(Run.OUTSIDE, "zero", 0, 1025);
        run.refused(Run.OUTSIDE, "zero", 63, 962);
        run.refused(Run.READONLY, "zero", 63, 961);
    }

    @Case("BAD: a place or n below 0, also of none, and ahead of OUTSIDE and of READONLY")
    static void bad() {
        Run run = filled();
        run.refused(Run.BAD, "zero", -1, 1);
        run.refused(Run.BAD, "zero", -1, 0);
        run.refused(Run.BAD, "zero", Run.LEAST, 0);
        run.refused(Run.BAD, "zero", 64, -1);
        run.refused(Run.BAD, "zero", 64, Run.LEAST);
        run.refused(Run.BAD, "zero", 5000, -1);
        run.refused(Run.BAD, "zero", 0, -1);
        run.refused(Run.BAD, "zero", -1, 5000);
    }
}
