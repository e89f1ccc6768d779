@Case("promise 5, copy")
public final class Promise05CopyTest {
    public static void main(String[] arguments) {
        Cases.run(Promise05CopyTest.class);
    }

    /** 1 2 3 4 5 6 7 8 from 100 on. */
    private static Run filled() {
        Run run = new Run();
        run.due(1, "set", 100, 4, 0x01020304);
        run.due(1, "set", 104, 4, 0x05060708);
        return run;
    }

    @Case("the bytes come to the other place, those that they are from stay, and no byte beside them changes")
    static void apart() {
        Run run = filled();
        run.due(1, "copy", 101, 200, 3);
        run.bytesAre(199, 0, 2, 3, 4, 0);
        run.bytesAre(100, 1, 2, 3, 4, 5);
    }

    @Case("both lie over one another, the other place behind: as they were, by one byte and by more")
    static void overBehind() {
        Run run = filled();
        run.due(1, "copy", 100, 101, 8);
        run.bytesAre(100, 1, 1, 2, 3, 4, 5, 6, 7, 8, 0);
        run = filled();
        run.due(1, "copy", 100, 107, 8);
        run.bytesAre(100, 1, 2, 3, 4, 5, 6, 7, 1, 2, 3, 4, 5, 6, 7, 8, 0);
    }

    @Case("both lie over one another, the other place ahead: as they were, by one byte and by more")
    static void overAhead() {
        Run run = filled();
        run.due(1, "copy", 100, 99, 8);
        run.bytesAre(98, 0, 1, 2, 3, 4, 5, 6, 7, 8, 8, 0);
        run = filled();
        run.due(1, "copy", 100, 93, 8);
        run.bytesAre(93, 1, 2, 3, 4, 5, 6, 7, 8, 2, 3, 4, 5, 6, 7, 8);
    }

    @Case("side by side, and onto themselves")
    static void sideBySide() {
        Run run = filled();
        run.due(1, "copy", 100, 104, 4);
        run.bytesAre(100, 1, 2, 3, 4, 1, 2, 3, 4, 0);
        run.idle(1, "copy", 100, 100, 8);
    }

    @Case("of none: 1, wherever the places lie, and nothing changes")
    static void none() {
        Run run = filled();
        for (int at : new int[] {0, 63, 64, 1024, 8192, Run.MOST}) {
            run.idle(1, "copy", 100, at, 0);
            run.idle(1, "copy", at, 100, 0);
            run.idle(1, "copy", at, at, 0);
        }
    }

    @Case("bytes of ROM may be copied; READONLY: into ROM they may not, the last byte of it is 63")
    static void rom() {
        Run run = filled();
        run.due(1, "copy", 0, 64, 64);
        run.bytesAre(64, 0, 7, 14);
        run.bytesAre(126, 178, 185, 0);
        run.refused(Run.READONLY, "copy", 100, 63, 1);
        run.refused(Run.READONLY, "copy", 100, 63, 2);
        run.refused(Run.READONLY, "copy", 100, 0, 100);
        run.refused(Run.READONLY, "copy", 0, 0, 1);
        run.due(1, "copy", 100, 64, 1);
    }

    @Case("OUTSIDE: from the last byte of MEMORY, and from one more")
    static void fromTheEnd() {
        Run run = filled();
        run.due(1, "set", 1020, 4, 0x0A0B0C0D);
        run.due(1, "copy", 1020, 200, 4);
        run.bytesAre(200, 10, 11, 12, 13);
        run.refused(Run.OUTSIDE, "copy", 1020, 200, 5);
        run.refused(Run.OUTSIDE, "copy", 1021, 200, 4);
        run.refused(Run.OUTSIDE, "copy", 1024, 200, 1);
    }

    @Case("OUTSIDE: to the last byte of MEMORY, and to one more")
    static void toTheEnd() {
        Run run = filled();
        run.due(1, "copy", 100, 1020, 4);
        run.bytesAre(1019, 0, 1, 2, 3, 4);
        run.refused(Run.OUTSIDE, "copy", 100, 1020, 5);
        run.refused(Run.OUTSIDE, "copy", 100, 1021, 4);
        run.refused(Run.OUTSIDE, "copy", 100, 1024, 1);
        run.due(1, "copy", 0, 64, 960);
        run.refused(Run.OUTSIDE, "copy", 0, 64, 961);
    }

    @Case("OUTSIDE: numbers so great that their sum wraps around")
    static void wraps() {
        Run run = filled();
        run.refused(Run.OUTSIDE, "copy", Run.MOST, 100, 1);
        run.refused(Run.OUTSIDE, "copy", 100, Run.MOST, 1);
        run.refused(Run.OUTSIDE, "copy", 100, 200, Run.MOST);
        run.refused(Run.OUTSIDE, "copy", Run.MOST, Run.MOST, Run.MOST);
    }

    @Case("OUTSIDE comes ahead of READONLY, whichever place it is")
    static void outsideFirst() {
        Run run = filled();
        run.refused(Run.OUTSIDE, "copy", 1023, 63, 2);
        run.refused(Run.OUTSIDE, "copy", 64, 0, 961);
        run.refused(Run.OUTSIDE, "copy", 0, 63, 1000);
        run.refused(Run.READONLY, "copy", 64, 63, 960);
    }

    @Case("BAD: a place or n below 0, also of none, and ahead of OUTSIDE and of READONLY")
    static void bad() {
        Run run = filled();
        run.refused(Run.BAD, "copy", -1, 100, 1);
        run.refused(Run.BAD, "copy", 100, -1, 1);
        run.refused(Run.BAD, "copy", 100, 200, -1);
        run.refused(Run.BAD, "copy", -1, 100, 0);
        run.refused(Run.BAD, "copy", 100, Run.LEAST, 0);
        run.refused(Run.BAD, "copy", 100, 200, Run.LEAST);
        run.refused(Run.BAD, "copy", 5000, -1, 1);
        run.refused(Run.BAD, "copy", 5000, 0, -1);
        run.refused(Run.BAD, "copy", -1, 0, 1);
    }
}
