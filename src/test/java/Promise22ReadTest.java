import java.util.ArrayList;
import java.util.List;

@Case("promise 22, read")
public final class Promise22ReadTest {
    public static void main(String[] arguments) {
        Cases.run(Promise22ReadTest.class);
    }

    private static int[] bytes(Object... parts) {
        List<Integer> all = new ArrayList<>();
        for (Object part : parts) {
            if (part instanceof int[]) {
                for (int b : (int[]) part) {
                    all.add(b);
                }
            } else {
                all.add((Integer) part);
            }
        }
        return all.stream().mapToInt(b -> b).toArray();
    }

    private static int[] pairs(int... numbers) {
        int[] bytes = new int[2 * numbers.length];
        for (int i = 0; i < numbers.length; i++) {
            bytes[2 * i] = numbers[i] >> 8;
            bytes[2 * i + 1] = numbers[i] & 255;
        }
        return bytes;
    }

    /** An object whose CODE is those bytes, with a heap, bytes and a kept state that are not as the code tells. */
    private static Run given(int... code) {
        Run run = new Run();
        run.giveCode(code);
        run.due(1024, "make", 9);
        run.due(1, "set", 700, 4, -1);
        run.due(1, "keep");
        run.due(1, "set", 1026, 4, 5);
        return run;
    }

    /** The code is right, and SIZE and THE HEAP are as it tells; all bytes are as at first but for those told. */
    private static Run right(int size, int... code) {
        Run run = given(code);
        run.due(size, "read");
        run.due(size, "told", 0);
        run.due(code.length, "told", 6);
        return run;
    }

    /** The code is wrong at a place, and nothing changes. */
    private static void wrong(int place, int... code) {
        given(code).refused(-100 - place, "read");
    }

    @Case("all is as it was when CODE was written: MEMORY, SIZE and THE HEAP; the answer is SIZE")
    static void comesBack() {
        Run run = new Run();
        run.due(1024, "make", 300);
        run.due(1324, "make", 7);
        run.due(300, "free", 1024);
        run.due(1, "set", 100, 4, 0x01000280);
        run.due(1, "set", 1535, 1, 255);
        run.due(1, "keep");
        run.due(10 + 2 + 5 + 12 + 1, "write");
        run.due(7, "free", 1324);
        run.due(1024, "resize", 8192);
        run.due(1, "set", 8000, 1, 1);
        run.due(1, "set", 100, 4, -1);
        run.due(1536, "read");
        run.due(1, "same");
        run.heapIs(1536, 1024, 1324, 7);
        run.bytesAre(100, 1, 0, 2, 128);
        run.bytesAre(1535, 255);
        run.due(Run.OUTSIDE, "get", 1536, 1);
        run.due(7, "free", 1324);
        run.due(1024, "resize", 8192);
        run.due(0, "get", 8000, 1);
        run.due(0, "get", 1535, 1);
    }

    @Case("CODE stays when it is read, and may be read again; what is KEPT and PROTECTED stays too")
    static void codeStays() {
        Run run = right(1280, bytes(pairs(1280, 1024, 1, 1024, 2), 0, 63, 7));
        run.codeIs(0, 5, 0, 4, 0, 0, 1, 4, 0, 0, 2, 0, 63, 7);
        run.due(1, "told", 5);
        run.due(0, "told", 8);
        run.due(1025 + 1, "make", 3);
        run.due(1, "set", 64, 1, 8);
        run.due(1280, "read");
        run.heapIs(1280, 1024, 1024, 2);
        run.bytesAre(64, 7);
        run.due(0, "back");
        run.heapIs(1280, 1024, 1024, 9);
    }

    @Case("wrong where it ends too early: no CODE at all")
    static void noCode() {
        Run run = new Run();
        run.refused(-100, "read");
        wrong(0);
    }

    @Case("wrong where it ends too early: within SIZE, START, how many, a BLOCK's place, its length, or ahead of them")
    static void endsTooEarly() {
        int[] code = pairs(1280, 1024, 2, 1024, 100, 1124, 50);
        for (int n = 1; n < code.length; n++) {
            wrong(n, java.util.Arrays.copyOf(code, n));
        }
        right(1280, code);
    }

    /** The code has all those bytes at first, and is then cut. */
    private static void cutIsWrongAtItsEnd(int n, int... code) {
        Run run = given(code);
        run.due(code.length - n, "cut", n);
        run.refused(-100 - n, "read");
    }

    @Case("wrong where it ends too early: within a number whose second byte, that was cut, would be wrong")
    static void cutWithinANumber() {
        cutIsWrongAtItsEnd(1, pairs(1281, 1024, 2, 1024, 100, 1124, 50));
        cutIsWrongAtItsEnd(3, pairs(1280, 1025, 2, 1024, 100, 1124, 50));
        cutIsWrongAtItsEnd(5, pairs(1280, 1024, 65, 1024, 100, 1124, 50));
        cutIsWrongAtItsEnd(9, pairs(1280, 1024, 2, 1024, 0, 1124, 50));
        cutIsWrongAtItsEnd(11, pairs(1280, 1024, 2, 1024, 100, 1123, 50));
        cutIsWrongAtItsEnd(13, pairs(1280, 1024, 2, 1024, 100, 1124, 157));
        cutIsWrongAtItsEnd(7, bytes(pairs(1024, 0, 0), 0, 255, 9));
    }

    @Case("bytes that were cut are not read, though they were right")
    static void cutBytes() {
        Run run = given(bytes(pairs(1024, 0, 0), 0, 63, 5, 6));
        run.due(1, "cut", 9);
        run.due(1024, "read");
        run.bytesAre(64, 5, 0);
        run.due(3, "cut", 6);
        run.due(1024, "read");
        run.bytesAre(64, 0, 0);
    }

    @Case("wrong where it ends too early: behind a 0 that no number follows")
    static void endsBehindZero() {
        wrong(7, bytes(pairs(1024, 0, 0), 0));
        wrong(10, bytes(pairs(1024, 0, 0), 0, 63, 5, 0));
        wrong(11, bytes(pairs(1280, 1024, 1, 1024, 5), 0));
    }

    @Case("a 0 that no number follows, when MEMORY is full already: any row would come to a byte that MEMORY has not")
    static void zeroBehindFullMemory() {
        wrong(9, bytes(pairs(256, 0, 0), 0, 254, 9, 0));
        wrong(8, bytes(pairs(256, 0, 0), 0, 255, 0));
        wrong(10, bytes(pairs(256, 0, 0), 0, 253, 9, 0));
    }

    @Case("a number that is there and wrong counts ahead of the end behind it")
    static void wrongAheadOfTheEnd() {
        wrong(0, pairs(0));
        wrong(2, pairs(1280, 1280));
        wrong(4, pairs(1280, 1024, 0));
        wrong(6, pairs(1280, 1024, 1, 1023));
        wrong(8, pairs(1280, 1024, 1, 1024, 0));
    }

    @Case("0: SIZE: the least 256 and the greatest 8192 are right; 0, 255, 8448 and no multiple of 256 are none")
    static void size() {
        right(256, pairs(256, 0, 0)).heapIs(256, 0);
        right(8192, pairs(8192, 0, 0)).heapIs(8192, 0);
        for (int size : new int[] {0, 1, 255, 257, 1025, 8191, 8193, 8448, 32768, 65280, 65535}) {
            wrong(0, pairs(size, 0, 0));
        }
    }

    @Case("2: START: the least 256 and the last one below SIZE are right")
    static void startRight() {
        right(1280, pairs(1280, 256, 1, 1024, 5)).heapIs(1280, 256, 1024, 5);
        right(1280, pairs(1280, 1024, 1, 1024, 5)).heapIs(1280, 1024, 1024, 5);
        right(8192, pairs(8192, 7936, 1, 8191, 1)).heapIs(8192, 7936, 8191, 1);
    }

    @Case("2: START: SIZE itself, more, 255, and no multiple of 256 are wrong")
    static void startWrong() {
        for (int start : new int[] {1280, 1536, 8192, 1, 255, 257, 1023, 1025, 65280, 65535}) {
            wrong(2, pairs(1280, start, 1, 1024, 5));
            wrong(2, pairs(1280, start, 0));
        }
        wrong(2, pairs(256, 256, 1, 256, 1));
    }

    @Case("4: how many: 64 are right, 65 are wrong")
    static void howMany() {
        int[] blocks = new int[2 * 65];
        for (int i = 0; i < 65; i++) {
            blocks[2 * i] = 1024 + 2 * i;
            blocks[2 * i + 1] = 2;
        }
        int[] sixtyFour = java.util.Arrays.copyOf(blocks, 128);
        right(1280, bytes(pairs(1280, 1024, 64), pairs(sixtyFour))).heapIs(1280, 1024, sixtyFour);
        wrong(4, bytes(pairs(1280, 1024, 65), pairs(blocks)));
        wrong(4, pairs(1280, 1024, 256, 1024, 5));
        wrong(4, pairs(1280, 1024, 65535, 1024, 5));
        wrong(4, pairs(1280, 0, 65));
    }

    @Case("4: how many is 0 just when START is: 0 with a START, and 1 without, are wrong")
    static void noneJustWithoutStart() {
        right(1280, pairs(1280, 0, 0)).heapIs(1280, 0);
        wrong(4, pairs(1280, 1024, 0));
        wrong(4, pairs(1280, 256, 0));
        wrong(4, pairs(1280, 0, 1, 1024, 5));
        wrong(4, pairs(1280, 0, 64));
    }

    @Case("at a BLOCK's place: START is right, one less is below it")
    static void placeOfTheFirst() {
        right(1280, pairs(1280, 1024, 1, 1024, 5)).heapIs(1280, 1024, 1024, 5);
        right(1280, pairs(1280, 1024, 1, 1025, 5)).heapIs(1280, 1024, 1025, 5);
        wrong(6, pairs(1280, 1024, 1, 1023, 5));
        wrong(6, pairs(1280, 1024, 1, 0, 5));
        wrong(6, pairs(1280, 1024, 1, 256, 5));
    }

    @Case("at a BLOCK's place: the end of the one before is right, one less is wrong")
    static void placeOfTheNext() {
        right(1280, pairs(1280, 1024, 2, 1030, 10, 1040, 5)).heapIs(1280, 1024, 1030, 10, 1040, 5);
        right(1280, pairs(1280, 1024, 2, 1030, 10, 1041, 5)).heapIs(1280, 1024, 1030, 10, 1041, 5);
        wrong(10, pairs(1280, 1024, 2, 1030, 10, 1039, 5));
        wrong(10, pairs(1280, 1024, 2, 1030, 10, 1030, 10));
        wrong(10, pairs(1280, 1024, 2, 1030, 10, 1024, 5));
        wrong(10, pairs(1280, 1024, 2, 1030, 10, 0, 5));
        wrong(14, pairs(1280, 1024, 3, 1030, 10, 1040, 5, 1044, 1));
    }

    @Case("at its length: 1 is right, 0 is wrong")
    static void leastLength() {
        right(1280, pairs(1280, 1024, 1, 1100, 1)).heapIs(1280, 1024, 1100, 1);
        wrong(8, pairs(1280, 1024, 1, 1100, 0));
        wrong(12, pairs(1280, 1024, 2, 1100, 1, 1200, 0));
    }

    @Case("at its length: a BLOCK that ends with SIZE is right, one that would end behind it is wrong")
    static void greatestLength() {
        right(1280, pairs(1280, 1024, 1, 1024, 256)).heapIs(1280, 1024, 1024, 256);
        wrong(8, pairs(1280, 1024, 1, 1024, 257));
        right(1280, pairs(1280, 1024, 2, 1024, 5, 1279, 1)).heapIs(1280, 1024, 1024, 5, 1279, 1);
        wrong(12, pairs(1280, 1024, 2, 1024, 5, 1279, 2));
        wrong(8, pairs(1280, 1024, 1, 1280, 1));
        wrong(8, pairs(1280, 1024, 1, 65535, 1));
        wrong(8, pairs(1280, 1024, 1, 1024, 65535));
        wrong(8, pairs(1280, 1024, 1, 65535, 65535));
    }

    @Case("a byte that MEMORY has not: the last byte of it is right, the next is wrong")
    static void byteBehindMemory() {
        Run run = right(256, bytes(pairs(256, 0, 0), 0, 254, 9));
        run.bytesAre(254, 0, 9);
        wrong(8, bytes(pairs(256, 0, 0), 0, 255, 9));
        wrong(9, bytes(pairs(256, 0, 0), 0, 254, 9, 9));
        right(512, bytes(pairs(512, 0, 0), 0, 255, 9)).bytesAre(256, 9, 0);
    }

    @Case("a 0 whose row would go behind MEMORY is wrong; one whose row ends with MEMORY is not, but what follows it")
    static void rowBehindMemory() {
        wrong(9, bytes(pairs(256, 0, 0), 0, 253, 9, 0, 1, 9));
        wrong(11, bytes(pairs(256, 0, 0), 0, 253, 9, 0, 0, 9));
        wrong(8, bytes(pairs(256, 0, 0), 0, 255, 0, 0, 9));
        wrong(11, bytes(pairs(256, 0, 0), 0, 252, 9, 0, 1, 9));
        wrong(9, bytes(pairs(256, 0, 0), 0, 252, 9, 0, 2, 9));
        wrong(8, bytes(pairs(256, 0, 0), 0, 200, 0, 200, 9));
    }

    @Case("the greatest SIZE: its last byte is right, the next is wrong")
    static void greatestMemory() {
        int[] rows = new int[2 * 32];
        for (int i = 0; i < 32; i++) {
            rows[2 * i + 1] = 255;
        }
        int[] full = bytes(pairs(8192, 0, 0), rows, 9);
        wrong(70, full);
        full[6 + 63] = 254;
        right(8192, full).bytesAre(8190, 0, 9);
        wrong(71, bytes(full, 9));
    }

    @Case("a byte that is not 0 and of ROM is wrong: byte 63 is of ROM, byte 64 is not")
    static void rom() {
        wrong(6, bytes(pairs(1024, 0, 0), 1));
        wrong(6, bytes(pairs(1024, 0, 0), 255, 0, 62, 9));
        wrong(8, bytes(pairs(1024, 0, 0), 0, 62, 1));
        wrong(8, bytes(pairs(1024, 0, 0), 0, 0, 1));
        Run run = right(1024, bytes(pairs(1024, 0, 0), 0, 63, 1));
        run.bytesAre(62, 178, 185, 1, 0);
        right(1024, bytes(pairs(1024, 0, 0), 0, 64, 1)).bytesAre(63, 185, 0, 1, 0);
        wrong(14, bytes(pairs(1280, 1024, 1, 1024, 5), 0, 30, 0, 31, 1));
    }

    @Case("a 0 with whose row CODE ends is wrong")
    static void rowAtTheEnd() {
        wrong(6, bytes(pairs(1024, 0, 0), 0, 0));
        wrong(6, bytes(pairs(1024, 0, 0), 0, 255));
        wrong(9, bytes(pairs(1024, 0, 0), 0, 63, 5, 0, 2));
        wrong(8, bytes(pairs(1024, 0, 0), 0, 63, 0, 2));
        wrong(6, bytes(pairs(256, 0, 0), 0, 255));
        wrong(10, bytes(pairs(1280, 1024, 1, 1024, 5), 0, 7));
        right(1024, bytes(pairs(1024, 0, 0), 0, 63, 5, 0, 2, 6)).bytesAre(64, 5, 0, 0, 0, 6, 0);
    }

    @Case("CODE that ends with the BLOCKS, and one that ends with how many, are right: all bytes are as at first")
    static void noBytes() {
        Run run = right(1024, pairs(1024, 0, 0));
        run.due(0, "get", 700, 4);
        run.bytesAre(62, 178, 185, 0);
        run = right(1280, pairs(1280, 1024, 1, 1024, 9));
        run.due(0, "get", 700, 4);
        run.due(0, "get", 1026, 4);
    }

    @Case("the first place that is wrong counts")
    static void first() {
        wrong(0, pairs(255, 255, 65, 0, 0));
        wrong(2, pairs(1280, 255, 65, 0, 0));
        wrong(4, bytes(pairs(1280, 1024, 65, 0, 0), 1));
        wrong(6, bytes(pairs(1280, 1024, 1, 0, 0), 1));
        wrong(8, bytes(pairs(1280, 1024, 2, 1024, 0, 0, 0), 1));
        wrong(10, bytes(pairs(1280, 1024, 1, 1024, 5), 1, 0));
    }

    @Case("bytes are told xor those of FIRST, whatever MEMORY has now")
    static void xorFirst() {
        Run run = new Run();
        run.giveCode(bytes(pairs(1024, 0, 0), 0, 63, 5, 0, 0, 6));
        run.due(1, "set", 64, 4, -1);
        run.due(1, "set", 1020, 4, -1);
        run.due(1024, "read");
        run.bytesAre(64, 5, 0, 6, 0);
        run.due(0, "get", 1020, 4);
    }

    @Case("rows of 0s that could be one row, and rows side by side, are right: nothing says that they can not be")
    static void shortRows() {
        right(1024, bytes(pairs(1024, 0, 0), 0, 0, 0, 62, 5, 0, 0, 0, 1, 6)).bytesAre(63, 185, 5, 0, 0, 0, 6, 0);
    }

    @Case("PROTECTED bytes that MEMORY has both now and then stay: the first and the last of them, none beside them")
    static void protectedBytes() {
        Run run = new Run();
        run.due(1, "set", 100, 4, 0x01020304);
        run.due(6 + 2 + 4, "write");
        run.due(1, "protect", 101, 2);
        run.due(1, "set", 100, 4, 0x05060708);
        run.due(1024, "read");
        run.bytesAre(100, 1, 6, 7, 4);
        run.due(101, "told", 7);
        run.due(2, "told", 8);
    }

    @Case("PROTECTED bytes that MEMORY has not now, or has not in CODE, do not stay")
    static void protectedBehind() {
        Run run = new Run();
        run.due(1, "set", 254, 4, 0x01020304);
        run.due(6 + 2 + 4, "write");
        run.due(1, "protect", 0, 8192);
        run.due(1024, "resize", 256);
        run.due(1, "set", 254, 2, 0x0506);
        run.due(1024, "read");
        run.bytesAre(254, 5, 6, 3, 4);
        run.due(1024, "resize", 2048);
        run.due(1, "set", 1022, 4, 0x0708090A);
        run.due(1024, "read");
        run.bytesAre(1022, 7, 8);
        run.due(1024, "resize", 2048);
        run.bytesAre(1022, 7, 8, 0, 0);
    }

    @Case("behind a CODE that is wrong the one that is right COMES BACK whole")
    static void rightBehindWrong() {
        Run run = given(bytes(pairs(1280, 1024, 1, 1100, 5), 0, 63, 5, 6, 0));
        run.refused(-115, "read");
        run.due(1, "cut", 14);
        run.due(1280, "read");
        run.heapIs(1280, 1024, 1100, 5);
        run.bytesAre(64, 5, 6, 0);
        run.due(0, "get", 700, 4);
        run.due(6, "poke", 13, 0);
        run.refused(-114, "read");
        run.bytesAre(64, 5, 6, 0);
    }

    @Case("THE HEAP that CODE tells is used on as any other: GAPS ahead, between, behind; START when it is gone")
    static void heapGoesOn() {
        Run run = right(1536, pairs(1536, 768, 2, 1024, 100, 1134, 50));
        run.due(3, "told", 4);
        run.due(150, "told", 3);
        run.due(10, "block", 0, 2);
        run.due(352, "block", 1, 2);
        run.due(768, "make", 256);
        run.due(1124, "make", 10);
        run.due(1184, "make", 353);
        run.due(1792, "told", 0);
        for (int at : new int[] {1184, 1124, 768, 1134, 1024}) {
            run.due(at == 1184 ? 353 : at == 1124 ? 10 : at == 768 ? 256 : at == 1134 ? 50 : 100, "free", at);
        }
        run.heapIs(768, 0);
    }
}
