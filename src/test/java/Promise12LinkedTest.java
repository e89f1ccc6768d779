@Case("promise 12, linked")
public final class Promise12LinkedTest {
    private static final int INDIRECT = 1, ZERO = 2;

    public static void main(String[] arguments) {
        Cases.run(Promise12LinkedTest.class);
    }

    /** A chain 200, 300, 250 of structures: the next place 2 bytes behind, the keys 11, 12, 13 6 bytes behind. */
    private static Run chain() {
        Run run = new Run();
        run.due(1, "set", 202, 4, 300);
        run.due(1, "set", 206, 2, 11);
        run.due(1, "set", 302, 4, 250);
        run.due(1, "set", 306, 2, 12);
        run.due(1, "set", 256, 2, 13);
        return run;
    }

    @Case("the first one that has the KEY is found: the first, one between, the last; nothing changes")
    static void found() {
        Run run = chain();
        run.due(200, "linked", 11, 2, 200, 6, 2, 0);
        run.due(300, "linked", 12, 2, 200, 6, 2, 0);
        run.idle(250, "linked", 13, 2, 200, 6, 2, 0);
        run.due(1, "set", 256, 2, 12);
        run.due(300, "linked", 12, 2, 200, 6, 2, 0);
    }

    @Case("at 0 there is none: behind the last one, and from the start; nothing changes")
    static void none() {
        Run run = chain();
        run.idle(0, "linked", 14, 2, 200, 6, 2, 0);
        run.due(0, "linked", 11, 2, 300, 6, 2, 0);
        run.due(0, "linked", 7, 1, 0, 1, 2, 0);
        run.due(0, "linked", 11, 2, 0, Run.MOST, Run.MOST, 0);
    }

    @Case("places above 0: 1 is one")
    static void placeOne() {
        Run run = new Run();
        run.due(1, "linked", 7, 1, 1, 0, 99, 0);
        run.due(1, "set", 103, 1, 1);
        run.due(1, "linked", 14, 1, 100, 1, 0, 0);
    }

    @Case("a KEY that is a number: k 1, 2 or 4; BAD: another; INDIRECT: 1 to 64; BAD: 0, 65")
    static void keyLengths() {
        Run run = chain();
        run.due(1, "set", 408, 4, 0x01020304);
        run.due(400, "linked", 0x7701, 1, 400, 8, 0, 0);
        run.due(400, "linked", 0x77770102, 2, 400, 8, 0, 0);
        run.due(400, "linked", 0x01020304, 4, 400, 8, 0, 0);
        run.due(0, "linked", 0x01020305, 4, 400, 8, 0, 0);
        for (int k : new int[] {0, 3, 5, 8, 64, -1, Run.MOST, Run.LEAST}) {
            run.refused(Run.BAD, "linked", 11, k, 200, 6, 2, 0);
        }
        run.due(300, "linked", 307, 1, 300, 7, 2, INDIRECT);
        run.due(250, "linked", 256, 64, 200, 6, 2, INDIRECT);
        for (int k : new int[] {0, 65, -1, Run.MOST, Run.LEAST}) {
            run.refused(Run.BAD, "linked", 256, k, 200, 6, 2, INDIRECT);
        }
    }

    @Case("ZERO: a KEY of 0s alone ends the search, ahead of the next place; without ZERO it does not")
    static void zero() {
        Run run = chain();
        run.due(1, "set", 306, 2, 0);
        run.due(0, "linked", 13, 2, 200, 6, 2, ZERO);
        run.due(0, "linked", 256, 2, 200, 6, 2, INDIRECT + ZERO);
        run.due(250, "linked", 13, 2, 200, 6, 2, 0);
        run.due(200, "linked", 11, 2, 200, 6, 2, ZERO);
        run.due(0, "linked", 13, 2, 400, 6, Run.MOST, ZERO);
        run.due(1, "set", 306, 2, 0x0100);
        run.due(250, "linked", 13, 2, 200, 6, 2, ZERO);
    }

    @Case("ZERO: a KEY of 0s that is looked for is found")
    static void zeroIsFound() {
        Run run = chain();
        run.due(1, "set", 306, 2, 0);
        run.due(300, "linked", 0, 2, 200, 6, 2, ZERO);
        run.due(300, "linked", 500, 2, 200, 6, 2, INDIRECT + ZERO);
    }

    @Case("BAD: INDEX, alone and with others; other OPTIONS: 0 to 3; BAD: -1, 8")
    static void options() {
        Run run = chain();
        for (int options = 0; options <= 3; options++) {
            run.due(300, "linked", (options & INDIRECT) != 0 ? 306 : 12, 2, 200, 6, 2, options);
        }
        for (int options : new int[] {4, 5, 6, 7, -1, 8, 9, Run.MOST, Run.LEAST}) {
            run.refused(Run.BAD, "linked", 12, 2, 200, 6, 2, options);
        }
    }

    @Case("BAD: start, offset or link below 0; 0 is as told")
    static void belowZero() {
        Run run = chain();
        run.refused(Run.BAD, "linked", 11, 2, -1, 6, 2, 0);
        run.refused(Run.BAD, "linked", 11, 2, 207, -1, 2, 0);
        run.refused(Run.BAD, "linked", 11, 2, 200, 6, -1, 0);
        run.refused(Run.BAD, "linked", 11, 2, Run.LEAST, 6, 2, 0);
        run.refused(Run.BAD, "linked", 11, 2, 200, Run.LEAST, 2, 0);
        run.refused(Run.BAD, "linked", 11, 2, 200, 6, Run.LEAST, 0);
        run.due(206, "linked", 11, 2, 206, 0, 2, 0);
        run.due(1, "set", 400, 4, 200);
        run.due(200, "linked", 11, 2, 400, 6, 0, 0);
    }

    @Case("OUTSIDE: the KEY that is looked for, ahead of all, also with the start 0")
    static void keyOutside() {
        Run run = chain();
        run.due(250, "linked", 1022, 2, 250, 8, 2, INDIRECT);
        run.refused(Run.OUTSIDE, "linked", 1023, 2, 250, 8, 2, INDIRECT);
        run.refused(Run.OUTSIDE, "linked", 1023, 2, 0, 6, 2, INDIRECT);
        run.refused(Run.OUTSIDE, "linked", -1, 2, 0, 6, 2, INDIRECT);
        run.refused(Run.OUTSIDE, "linked", Run.MOST, 64, 200, 6, 2, INDIRECT);
    }

    @Case("OUTSIDE: a structure's KEY has to be there wholly; the last one that is")
    static void structureOutside() {
        Run run = chain();
        run.due(1, "set", 1022, 2, 14);
        run.due(1016, "linked", 14, 2, 1016, 6, 2, 0);
        run.refused(Run.OUTSIDE, "linked", 14, 2, 1017, 6, 2, 0);
        run.due(1, "set", 252, 4, 1016);
        run.due(1016, "linked", 14, 2, 200, 6, 2, 0);
        run.due(1, "set", 252, 4, 1017);
        run.refused(Run.OUTSIDE, "linked", 14, 2, 200, 6, 2, 0);
        run.due(1, "set", 252, 4, 1024);
        run.refused(Run.OUTSIDE, "linked", 14, 1, 200, 0, 2, 0);
    }

    @Case("OUTSIDE: the 4 bytes of the next place have to be there wholly; the last ones that are")
    static void linkOutside() {
        Run run = chain();
        run.due(0, "linked", 14, 1, 1000, 0, 20, 0);
        run.refused(Run.OUTSIDE, "linked", 14, 1, 1000, 0, 21, 0);
        run.refused(Run.OUTSIDE, "linked", 14, 1, 1001, 0, 20, 0);
        run.refused(Run.OUTSIDE, "linked", 14, 1, 1023, 0, 0, 0);
    }

    @Case("one that is found, or that ends the search by ZERO, is so ahead of a next place OUTSIDE")
    static void foundAheadOfOutside() {
        Run run = chain();
        run.due(1, "set", 1023, 1, 14);
        run.due(1023, "linked", 14, 1, 1023, 0, 0, 0);
        run.due(200, "linked", 11, 2, 200, 6, Run.MOST, 0);
        run.due(0, "linked", 11, 1, 1022, 0, 0, ZERO);
        run.refused(Run.OUTSIDE, "linked", 11, 1, 1022, 0, 0, 0);
    }

    @Case("the next place is a number without sign: 2147483648 and 4294967295 are OUTSIDE")
    static void withoutSign() {
        Run run = chain();
        run.due(1, "set", 252, 4, Run.LEAST);
        run.refused(Run.OUTSIDE, "linked", 14, 2, 200, 6, 2, 0);
        run.due(1, "set", 252, 4, -1);
        run.refused(Run.OUTSIDE, "linked", 14, 2, 200, 6, 2, 0);
        run.due(250, "linked", 13, 2, 200, 6, 2, 0);
    }

    @Case("places are reckoned without an end to numbers: OUTSIDE where they would wrap around into MEMORY")
    static void wraps() {
        Run run = chain();
        // 4294967295 and 257 would be 256, where the number 13 lies.
        run.due(1, "set", 400, 4, -1);
        run.refused(Run.OUTSIDE, "linked", 13, 2, 400, 257, 0, 0);
        run.refused(Run.OUTSIDE, "linked", 14, 2, Run.MOST, Run.MOST, Run.MOST, 0);
        run.refused(Run.OUTSIDE, "linked", 14, 2, 200, Run.MOST, 2, 0);
        run.refused(Run.OUTSIDE, "linked", 14, 2, 200, 6, Run.MOST, 0);
    }

    @Case("ENDLESS: a chain that goes round, of three structures and of one")
    static void endless() {
        Run run = chain();
        run.due(1, "set", 252, 4, 200);
        run.refused(Run.ENDLESS, "linked", 14, 2, 200, 6, 2, 0);
        run.refused(Run.ENDLESS, "linked", 14, 2, 200, 6, 2, ZERO);
        run.refused(Run.ENDLESS, "linked", 14, 2, 300, 6, 2, 0);
        run.due(250, "linked", 13, 2, 200, 6, 2, 0);
        run.due(1, "set", 402, 4, 400);
        run.refused(Run.ENDLESS, "linked", 14, 2, 400, 6, 2, 0);
        run.due(0, "linked", 14, 2, 400, 6, 2, ZERO);
    }

    @Case("a chain as long as 512 calls can make it is not ENDLESS; when it goes round it is")
    static void longChain() {
        Run run = new Run();
        run.due(1024, "resize", 8192);
        for (int i = 0; i < 500; i++) {
            run.due(1, "set", 100 + 4 * i, 4, 104 + 4 * i);
        }
        run.due(0, "linked", 1, 1, 100, 0, 0, 0);
        run.due(1, "set", 2100, 1, 1);
        run.due(2100, "linked", 1, 1, 100, 0, 0, 0);
        run.due(1, "set", 2100, 4, 100);
        run.due(Run.ENDLESS, "linked", 1, 1, 100, 0, 0, 0);
    }

    @Case("BAD comes ahead of OUTSIDE and of ENDLESS, also with the start 0")
    static void order() {
        Run run = chain();
        run.refused(Run.BAD, "linked", -1, 65, 200, 6, 2, INDIRECT);
        run.refused(Run.BAD, "linked", 1023, 2, 0, 6, -1, INDIRECT);
        run.refused(Run.BAD, "linked", 11, 3, 0, 6, 2, 0);
        run.refused(Run.BAD, "linked", 11, 2, 0, -1, 2, 0);
        run.refused(Run.BAD, "linked", 11, 2, 0, 6, 2, 4);
        run.refused(Run.BAD, "linked", 14, 2, 5000, 6, -1, 0);
    }
}
