@Case("promise 16, restart")
public final class Promise16RestartTest {
    public static void main(String[] arguments) {
        Cases.run(Promise16RestartTest.class);
    }

    @Case("the beginning COMES BACK: SIZE 1024, no HEAP, ROM as told, all other bytes 0")
    static void beginning() {
        Run run = new Run();
        run.due(1024, "resize", 2048);
        run.due(2048, "make", 300);
        run.due(1, "set", 64, 4, -1);
        run.due(1, "set", 1020, 4, -1);
        run.due(1, "set", 2300, 4, -1);
        run.due(1, "restart");
        run.heapIs(1024, 0);
        run.due(0, "told", 3);
        run.due(0, "told", 4);
        for (int i = 0; i < 64; i++) {
            run.due(7 * i % 256, "get", i, 1);
        }
        for (int at = 64; at < 1024; at += 4) {
            run.due(0, "get", at, 4);
        }
        run.due(Run.OUTSIDE, "get", 1024, 1);
    }

    @Case("bytes that went are 0 when MEMORY grows again")
    static void bytesThatWent() {
        Run run = new Run();
        run.due(1024, "make", 300);
        run.due(1, "set", 1200, 4, -1);
        run.due(1, "restart");
        run.due(1024, "make", 300);
        run.due(0, "get", 1200, 4);
    }

    @Case("twice: nothing of THE HEAP or of the bytes that were there comes again")
    static void twice() {
        Run run = new Run();
        run.due(1024, "make", 300);
        run.due(1024 + 300, "make", 5);
        run.due(1, "set", 100, 4, -1);
        run.due(1, "restart");
        run.idle(1, "restart");
        run.heapIs(1024, 0);
        run.due(0, "get", 100, 4);
        run.due(1024, "resize", 512);
    }

    @Case("of a new object: nothing changes")
    static void ofANewObject() {
        Run run = new Run();
        run.idle(1, "restart");
        run.idle(1, "restart");
    }

    @Case("from the least SIZE MEMORY is 1024 bytes again, from the greatest too")
    static void sizes() {
        for (int size : new int[] {256, 8192}) {
            Run run = new Run();
            run.due(1024, "resize", size);
            run.due(1, "restart");
            run.due(1024, "told", 0);
            run.due(0, "get", 1020, 4);
            run.due(Run.OUTSIDE, "get", 1024, 1);
        }
    }

    @Case("what is KEPT stays, and so does the order of it")
    static void keptStays() {
        Run run = new Run();
        run.due(1, "set", 100, 1, 1);
        run.due(1, "keep");
        run.due(1, "set", 100, 1, 2);
        run.due(2, "keep");
        run.due(1, "restart");
        run.due(2, "told", 5);
        run.bytesAre(100, 0);
        run.due(1, "back");
        run.bytesAre(100, 2);
        run.due(1, "restart");
        run.due(0, "back");
        run.bytesAre(100, 1);
    }

    @Case("CODE stays")
    static void codeStays() {
        Run run = new Run();
        run.due(1, "set", 64, 1, 5);
        run.due(9, "write");
        run.due(1, "restart");
        run.codeIs(0, 4, 0, 0, 0, 0, 0, 0, 63, 5);
        run.due(1024, "read");
        run.bytesAre(64, 5);
    }

    @Case("the PROTECTED stretch stays, and its bytes as they are now, the first and the last of them")
    static void protectedStays() {
        Run run = new Run();
        run.due(1, "protect", 70, 2);
        run.due(1, "set", 68, 4, 0x01020304);
        run.due(1, "set", 72, 4, 0x05060708);
        run.due(1, "restart");
        run.bytesAre(68, 0, 0, 3, 4, 0, 0, 0, 0);
        run.due(70, "told", 7);
        run.due(2, "told", 8);
        run.due(1, "restart");
        run.bytesAre(68, 0, 0, 3, 4, 0, 0, 0, 0);
    }

    @Case("PROTECTED bytes above 1024 are gone; the last one below stays")
    static void protectedAbove() {
        Run run = new Run();
        run.due(1, "protect", 1022, 4);
        run.due(1024, "resize", 2048);
        run.due(1, "set", 1022, 4, 0x01020304);
        run.due(1, "restart");
        run.bytesAre(1022, 1, 2);
        run.due(1024, "resize", 2048);
        run.bytesAre(1022, 1, 2, 0, 0);
    }

    @Case("PROTECTED bytes that MEMORY has not now are as at the beginning")
    static void protectedBehind() {
        Run run = new Run();
        run.due(1, "protect", 0, 8192);
        run.due(1, "set", 254, 4, 0x01020304);
        run.due(1024, "resize", 256);
        run.due(1, "restart");
        run.bytesAre(254, 1, 2, 0, 0);
        run.bytesAre(62, 178, 185, 0);
        run.due(1024, "told", 0);
    }
}
