@Case("promise 10, linear")
public final class Promise10LinearTest {
    private static final int INDIRECT = 1, ZERO = 2, INDEX = 4;

    public static void main(String[] arguments) {
        Cases.run(Promise10LinearTest.class);
    }

    /** Structures of 6 bytes from 100 on, whose keys of 2 bytes lie 3 bytes behind their places. */
    private static Run rows(int... keys) {
        Run run = new Run();
        for (int i = 0; i < keys.length; i++) {
            run.due(1, "set", 103 + 6 * i, 2, keys[i]);
        }
        return run;
    }

    @Case("the first one that has the KEY is found: its place, with INDEX its number from 0 on; nothing changes")
    static void found() {
        Run run = rows(11, 12, 13, 12);
        run.due(100, "linear", 11, 2, 100, 6, 4, 3, 0);
        run.due(0, "linear", 11, 2, 100, 6, 4, 3, INDEX);
        run.due(106, "linear", 12, 2, 100, 6, 4, 3, 0);
        run.idle(1, "linear", 12, 2, 100, 6, 4, 3, INDEX);
        run.idle(112, "linear", 13, 2, 100, 6, 4, 3, 0);
    }

    @Case("none: 0, with INDEX -1; nothing changes")
    static void none() {
        Run run = rows(11, 12, 13);
        run.idle(0, "linear", 14, 2, 100, 6, 3, 3, 0);
        run.idle(-1, "linear", 14, 2, 100, 6, 3, 3, INDEX);
    }

    @Case("n of them: the last one is looked at, the next is not")
    static void lastOfThem() {
        Run run = rows(11, 12, 13, 14);
        run.due(3, "linear", 14, 2, 100, 6, 4, 3, INDEX);
        run.due(-1, "linear", 14, 2, 100, 6, 3, 3, INDEX);
        run.due(0, "linear", 14, 2, 100, 6, 3, 3, 0);
        run.due(0, "linear", 11, 2, 100, 6, 1, 3, INDEX);
        run.due(-1, "linear", 12, 2, 100, 6, 1, 3, INDEX);
    }

    @Case("n 0: there is none, wherever the structures would lie")
    static void noneOfThem() {
        Run run = rows(11);
        run.due(0, "linear", 11, 2, 100, 6, 0, 3, 0);
        run.due(-1, "linear", 11, 2, 100, 6, 0, 3, INDEX);
        run.due(0, "linear", 11, 2, Run.MOST, Run.MOST, 0, Run.MOST, 0);
        run.due(-1, "linear", 11, 2, 1024, 1, 0, 0, INDEX);
    }

    @Case("n -1: without an end; BAD: n below -1")
    static void withoutAnEnd() {
        Run run = rows(11, 12, 13, 14);
        run.due(3, "linear", 14, 2, 100, 6, -1, 3, INDEX);
        run.due(Run.OUTSIDE, "linear", 15, 2, 100, 6, -1, 3, INDEX);
        run.refused(Run.BAD, "linear", 14, 2, 100, 6, -2, 3, INDEX);
        run.refused(Run.BAD, "linear", 14, 2, 100, 6, Run.LEAST, 3, INDEX);
    }

    @Case("a KEY that is a number: its lowest 1, 2 or 4 bytes, the highest first; BAD: k is another")
    static void keyNumbers() {
        Run run = new Run();
        run.due(1, "set", 100, 4, 0x01020384);
        run.due(103, "linear", 0x77777784, 1, 100, 1, 8, 0, 0);
        run.due(103, "linear", -124, 1, 100, 1, 8, 0, 0);
        run.due(102, "linear", 0x77770384, 2, 100, 1, 8, 0, 0);
        run.due(0, "linear", 0x8403, 2, 100, 1, 8, 0, 0);
        run.due(100, "linear", 0x01020384, 4, 100, 1, 8, 0, 0);
        run.due(0, "linear", 0x02020384, 4, 100, 1, 8, 0, 0);
        for (int k : new int[] {0, 3, 5, 6, 8, 64, -1, Run.MOST, Run.LEAST}) {
            run.refused(Run.BAD, "linear", 5, k, 100, 1, 8, 0, 0);
        }
    }

    @Case("a KEY of 4 bytes that are all 255, from the number -1")
    static void keyMinusOne() {
        Run run = new Run();
        run.due(1, "set", 104, 4, -1);
        run.due(104, "linear", -1, 4, 100, 1, 8, 0, 0);
        run.due(104, "linear", 65535, 2, 100, 1, 8, 0, 0);
    }

    @Case("INDIRECT: a KEY of 1 to 64 bytes in MEMORY; BAD: 0, 65")
    static void indirectKeys() {
        Run run = new Run();
        run.due(1, "set", 100, 4, 0x01020304);
        run.due(1, "set", 300, 4, 0x01020304);
        run.due(1, "set", 363, 2, 0x0506);
        run.due(1, "copy", 300, 500, 64);
        run.due(100, "linear", 300, 1, 90, 1, 500, 0, INDIRECT);
        run.due(100, "linear", 300, 3, 90, 1, 500, 0, INDIRECT);
        run.due(300, "linear", 500, 64, 90, 1, 500, 0, INDIRECT);
        run.due(0, "linear", 0, 64, 0, 1, 1, 0, INDIRECT + INDEX);
        run.due(210, "linear", 500, 64, 90, 1, 500, 0, INDIRECT + INDEX);
        run.due(1, "set", 563, 1, 9);
        run.due(500, "linear", 500, 64, 90, 1, 500, 0, INDIRECT);
        run.due(100, "linear", 500, 63, 90, 1, 500, 0, INDIRECT);
        for (int k : new int[] {0, 65, -1, Run.MOST, Run.LEAST}) {
            run.refused(Run.BAD, "linear", 300, k, 90, 1, 500, 0, INDIRECT);
        }
    }

    @Case("OUTSIDE: the KEY that is looked for, ahead of all; the last place for it")
    static void keyOutside() {
        Run run = rows(11);
        run.due(0, "linear", 1022, 2, 100, 6, 1, 3, INDIRECT);
        run.due(0, "linear", 960, 64, 100, 6, 1, 3, INDIRECT);
        run.refused(Run.OUTSIDE, "linear", 1023, 2, 100, 6, 1, 3, INDIRECT);
        run.refused(Run.OUTSIDE, "linear", 961, 64, 100, 6, 1, 3, INDIRECT);
        run.refused(Run.OUTSIDE, "linear", 1024, 1, 100, 6, 0, 3, INDIRECT);
        run.refused(Run.OUTSIDE, "linear", -1, 2, 100, 6, 0, 3, INDIRECT);
        run.refused(Run.OUTSIDE, "linear", Run.LEAST, 2, 100, 6, 1, 3, INDIRECT);
        run.refused(Run.OUTSIDE, "linear", Run.MOST, 64, 100, 6, 1, 3, INDIRECT);
    }

    @Case("OUTSIDE: a structure's KEY has to be there wholly; the last one that is")
    static void structureOutside() {
        Run run = rows(11);
        run.due(-1, "linear", 9, 2, 1016, 3, 3, 0, INDEX);
        run.refused(Run.OUTSIDE, "linear", 9, 2, 1017, 3, 3, 0, INDEX);
        run.due(-1, "linear", 9, 2, 1017, 3, 2, 0, INDEX);
        run.due(0, "linear", 9, 1, 1023, 1, 1, 0, 0);
        run.refused(Run.OUTSIDE, "linear", 9, 1, 1024, 1, 1, 0, 0);
        run.due(0, "linear", 9, 4, 0, 1, 1, 1020, 0);
        run.refused(Run.OUTSIDE, "linear", 9, 4, 0, 1, 1, 1021, 0);
        run.due(1, "set", 1023, 1, 9);
        run.due(1023, "linear", 9, 1, 1000, 1, -1, 0, 0);
    }

    @Case("a structure may lie behind MEMORY's end in all but its KEY; one that is found is found ahead of OUTSIDE")
    static void structureThatHangsOver() {
        Run run = rows(11);
        run.due(1, "set", 1023, 1, 9);
        run.due(1023, "linear", 9, 1, 1023, 100, 1, 0, 0);
        run.due(100, "linear", 11, 2, 100, Run.MOST, -1, 3, 0);
        run.due(Run.OUTSIDE, "linear", 12, 2, 100, Run.MOST, -1, 3, 0);
    }

    @Case("places are reckoned without an end to numbers: OUTSIDE where they would wrap around")
    static void wraps() {
        Run run = rows(11);
        run.refused(Run.OUTSIDE, "linear", 0, 1, Run.MOST, 1, 4, Run.MOST, 0);
        run.refused(Run.OUTSIDE, "linear", 0, 1, Run.MOST, Run.MOST, Run.MOST, Run.MOST, 0);
        run.refused(Run.OUTSIDE, "linear", 9, 1, 100, Run.MOST, 3, 0, 0);
        run.refused(Run.OUTSIDE, "linear", 9, 1, 100, 1 << 30, 5, 0, 0);
    }

    @Case("ZERO: a KEY of 0s alone ends the search; without ZERO it does not")
    static void zero() {
        Run run = rows(11, 0, 13);
        run.due(0, "linear", 13, 2, 100, 6, 3, 3, ZERO);
        run.due(-1, "linear", 13, 2, 100, 6, 3, 3, ZERO + INDEX);
        run.due(-1, "linear", 13, 2, 100, 6, -1, 3, ZERO + INDEX);
        run.due(2, "linear", 13, 2, 100, 6, 3, 3, INDEX);
        run.due(0, "linear", 11, 2, 100, 6, 3, 3, ZERO + INDEX);
        run.due(-1, "linear", 115, 2, 100, 6, 3, 3, INDIRECT + ZERO + INDEX);
    }

    @Case("ZERO: a KEY that has one byte that is no 0 does not end the search, be it the first or the last")
    static void almostZero() {
        Run run = rows(0x0001, 0x0100, 13);
        run.due(2, "linear", 13, 2, 100, 6, 3, 3, ZERO + INDEX);
        run.due(-1, "linear", 13, 1, 100, 6, 3, 3, ZERO + INDEX);
    }

    @Case("ZERO: a KEY of 0s that is looked for is found")
    static void zeroIsFound() {
        Run run = rows(11, 0, 0);
        run.due(1, "linear", 0, 2, 100, 6, 3, 3, ZERO + INDEX);
        run.due(106, "linear", 0, 2, 100, 6, 3, 3, ZERO);
        run.due(106, "linear", 500, 2, 100, 6, 3, 3, INDIRECT + ZERO);
    }

    @Case("OPTIONS: 0 to 7; BAD: -1, 8")
    static void options() {
        Run run = rows(11, 0, 13);
        for (int options = 0; options <= 7; options++) {
            boolean indirect = (options & INDIRECT) != 0;
            boolean index = (options & INDEX) != 0;
            run.due(index ? 0 : 100, "linear", indirect ? 103 : 11, 2, 100, 6, 3, 3, options);
        }
        for (int options : new int[] {-1, 8, 9, 16, Run.MOST, Run.LEAST}) {
            run.refused(Run.BAD, "linear", 11, 2, 100, 6, 3, 3, options);
        }
    }

    @Case("BAD: width, start or offset below 0; 0 is as told")
    static void belowZero() {
        Run run = rows(11);
        run.refused(Run.BAD, "linear", 11, 2, 100, -1, 3, 3, 0);
        run.refused(Run.BAD, "linear", 11, 2, -1, 6, 3, 104, 0);
        run.refused(Run.BAD, "linear", 11, 2, 104, 6, 3, -1, 0);
        run.refused(Run.BAD, "linear", 11, 2, Run.LEAST, 6, 3, 3, 0);
        run.refused(Run.BAD, "linear", 11, 2, 100, Run.LEAST, 3, 3, 0);
        run.refused(Run.BAD, "linear", 11, 2, 100, 6, 3, Run.LEAST, 0);
        run.due(103, "linear", 11, 2, 103, 0, 1, 0, 0);
        run.due(0, "linear", 7, 1, 0, 1, 2, 1, 0);
        run.due(0, "linear", 7, 1, 0, 1, 2, 1, INDEX);
        run.due(1, "linear", 7, 1, 0, 1, 2, 0, INDEX);
    }

    @Case("width 0: the same structure again and again, n times")
    static void widthZero() {
        Run run = rows(11);
        run.due(0, "linear", 11, 2, 100, 0, -1, 3, INDEX);
        run.due(-1, "linear", 12, 2, 100, 0, 5, 3, INDEX);
        run.due(-1, "linear", 12, 2, 200, 0, -1, 3, ZERO + INDEX);
    }

    @Case("ENDLESS: 3000 structures are looked at, for the 3001st it is; width 0 and without an end")
    static void endless() {
        Run run = rows(11);
        run.due(0, "linear", 12, 2, 100, 0, 3000, 3, 0);
        run.due(-1, "linear", 12, 2, 100, 0, 3000, 3, INDEX);
        run.refused(Run.ENDLESS, "linear", 12, 2, 100, 0, 3001, 3, 0);
        run.refused(Run.ENDLESS, "linear", 12, 2, 100, 0, 3001, 3, INDEX);
        run.refused(Run.ENDLESS, "linear", 12, 2, 100, 0, Run.MOST, 3, 0);
        run.refused(Run.ENDLESS, "linear", 12, 2, 100, 0, -1, 3, 0);
        run.refused(Run.ENDLESS, "linear", 12, 2, 100, 0, -1, 3, ZERO);
    }

    @Case("ENDLESS: the 3000th structure can be found, the 3001st can not")
    static void lastThatIsFound() {
        for (int width = 1; width <= 2; width++) {
            Run run = new Run();
            run.due(1024, "resize", 8192);
            run.due(1, "set", 200 + 2999 * width, 1, 99);
            run.due(2999, "linear", 99, 1, 200, width, -1, 0, INDEX);
            run.due(200 + 2999 * width, "linear", 99, 1, 200, width, 3000, 0, 0);
            run.refused(Run.ENDLESS, "linear", 99, 1, 200 - width, width, -1, 0, INDEX);
            run.refused(Run.ENDLESS, "linear", 99, 1, 200 - width, width, 3001, 0, 0);
            run.due(0, "linear", 99, 1, 200 - width, width, 3000, 0, 0);
        }
    }

    @Case("ENDLESS: the 3000th structure can end the search by ZERO, the 3001st can not")
    static void lastThatEnds() {
        Run run = new Run();
        run.due(1024, "resize", 8192);
        run.due(1, "set", 200, 4, 0x01010101);
        for (int n = 4; n < 2048; n *= 2) {
            run.due(1, "copy", 200, 200 + n, n);
        }
        run.due(1, "copy", 200, 200 + 2048, 951);
        run.bytesAre(200 + 2998, 1, 0);
        run.due(-1, "linear", 99, 1, 200, 1, -1, 0, ZERO + INDEX);
        run.due(1, "set", 200 + 2999, 1, 1);
        run.refused(Run.ENDLESS, "linear", 99, 1, 200, 1, -1, 0, ZERO + INDEX);
    }

    @Case("ENDLESS: the 3001st structure would lie behind MEMORY, but the search does not come to it; OUTSIDE: the 3000th")
    static void endlessAtTheEnd() {
        Run run = new Run();
        run.due(1024, "resize", 8192);
        run.refused(Run.ENDLESS, "linear", 9, 1, 8192 - 3000, 1, -1, 0, 0);
        run.refused(Run.ENDLESS, "linear", 9, 1, 8192 - 3000, 1, 3001, 0, 0);
        run.due(0, "linear", 9, 1, 8192 - 3000, 1, 3000, 0, 0);
        run.refused(Run.OUTSIDE, "linear", 9, 1, 8192 - 2999, 1, -1, 0, 0);
        run.refused(Run.OUTSIDE, "linear", 9, 1, 8192 - 2999, 1, 3000, 0, 0);
    }

    @Case("BAD comes ahead of OUTSIDE and of ENDLESS, OUTSIDE of the KEY ahead of ENDLESS")
    static void order() {
        Run run = rows(11);
        run.refused(Run.BAD, "linear", -1, 65, 100, 6, 3, 3, INDIRECT);
        run.refused(Run.BAD, "linear", 1024, 1, 100, -1, 3, 3, INDIRECT);
        run.refused(Run.BAD, "linear", 12, 3, 5000, 6, 3, 3, 0);
        run.refused(Run.BAD, "linear", 12, 2, 100, 0, -1, 3, 8);
        run.refused(Run.OUTSIDE, "linear", 1024, 1, 100, 0, -1, 3, INDIRECT);
    }
}
